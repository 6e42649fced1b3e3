/-! NUMBERS IN RANGES; THE STATE OF BOTH SIDES -/
def rgI (l m : Nat) (v : Int32) : Option Nat := if inI v (nI l) (nI m) = true then some v.toNatClampNeg else none
theorem nI_back {v : Int32} (h : 0 ≤ v) : nI v.toNatClampNeg = v := by
  obtain ⟨j, hj, rfl⟩ := nI_of (Int32.not_lt.mpr h)
  rw [nI_clamp hj]
theorem rgI_I (l m : Nat) (v : Int32) : inI v (nI l) (nI m) = (rgI l m v).isSome := by
  unfold rgI
  cases inI v (nI l) (nI m) <;> rfl
theorem rgI_J (l m : Nat) (v : Int32) : inJ v.toInt64 (nI l).toInt64 (nI m).toInt64 = (rgI l m v).isSome := by rw [inJ_I, rgI_I]
theorem rgI_s {l m : Nat} (hl : l ≤ 1000000) (hm : m ≤ 1000000) {v : Int32} {k : Nat} (h : rgI l m v = some k) : v = nI k ∧ l ≤ k ∧ k ≤ m := by
  unfold rgI at h
  by_cases q : inI v (nI l) (nI m) = true
  · rw [if_pos q] at h
    cases h
    obtain ⟨q1, q2⟩ := inI_t.mp q
    have h0 : (0 : Int32) ≤ v := Int32.le_trans (nI_pos' (by omega)) q1
    obtain ⟨j, hj, rfl⟩ := nI_of (Int32.not_lt.mpr h0)
    rw [nI_clamp hj]
    exact ⟨rfl, (nI_leI (by omega) hj).mp q1, (nI_leI hj (by omega)).mp q2⟩
  · rw [if_neg q] at h
    cases h
theorem rgI_k {l m k : Nat} (hl : l ≤ k) (hk : k ≤ m) (hm : m ≤ 1000000) : rgI l m (nI k) = some k := by
  unfold rgI
  rw [if_pos (inI_t.mpr ⟨nI_le hl (by omega), nI_le hk (by omega)⟩), nI_clamp (by omega)]
def thI (n : Nat) (v : Int32) : Option Nat := if n = 0 then none else rgI 0 (n - 1) v
theorem thI_s {n : Nat} (hn : n ≤ 1000000) {v : Int32} {k : Nat} (h : thI n v = some k) : v = nI k ∧ k < n := by
  unfold thI at h
  by_cases e : n = 0
  · rw [if_pos e] at h
    cases h
  · rw [if_neg e] at h
    obtain ⟨h1, h2, h3⟩ := rgI_s (by omega) (by omega) h
    exact ⟨h1, by omega⟩
theorem thI_k {n k : Nat} (hk : k < n) (hn : n ≤ 1000000) : thI n (nI k) = some k := by
  unfold thI
  rw [if_neg (by omega), rgI_k (by omega) (by omega) (by omega)]
theorem thI_I {n : Nat} (hn : n ≤ 1000000) (v : Int32) : inI v 0 (nI n - 1) = (thI n v).isSome := by
  unfold thI
  by_cases e : n = 0
  · subst e
    rw [if_pos rfl]
    show inI v 0 (0 - 1) = false
    unfold inI
    by_cases q : (0 : Int32) ≤ v
    · have : ¬ v ≤ 0 - 1 := Int32.not_le.mpr (Int32.lt_of_lt_of_le (by decide) q)
      rw [decide_eq_false this, Bool.and_false]
    · rw [decide_eq_false q, Bool.false_and]
  · rw [if_neg e, nS1 (by omega)]
    exact rgI_I 0 (n - 1) v
theorem thI_J {n : Nat} (hn : n ≤ 1000000) (v : Int32) : inJ v.toInt64 0 (nI n - 1).toInt64 = (thI n v).isSome := by
  rw [← thI_I hn, ← inJ_I]
  rfl
theorem thI_m1 (n : Nat) : thI n (-1) = none := by
  unfold thI
  split
  · rfl
  · unfold rgI
    rw [if_neg]
    intro z
    have := (inI_t.mp z).1
    exact absurd this (by decide)
theorem ri_0_7 (v : Int32) : inI v 0 7 = (rgI 0 7 v).isSome := rgI_I 0 7 v
theorem rj_0_7 (v : Int32) : inJ v.toInt64 0 7 = (rgI 0 7 v).isSome := by
  have := rgI_J 0 7 v
  rwa [show (nI 0).toInt64 = 0 from by decide, show (nI 7).toInt64 = 7 from by decide] at this
theorem ri_0_4 (v : Int32) : inI v 0 4 = (rgI 0 4 v).isSome := rgI_I 0 4 v
theorem rj_0_4 (v : Int32) : inJ v.toInt64 0 4 = (rgI 0 4 v).isSome := by
  have := rgI_J 0 4 v
  rwa [show (nI 0).toInt64 = 0 from by decide, show (nI 4).toInt64 = 4 from by decide] at this
theorem ri_0_40 (v : Int32) : inI v 0 40 = (rgI 0 40 v).isSome := rgI_I 0 40 v
theorem rj_0_40 (v : Int32) : inJ v.toInt64 0 40 = (rgI 0 40 v).isSome := by
  have := rgI_J 0 40 v
  rwa [show (nI 0).toInt64 = 0 from by decide, show (nI 40).toInt64 = 40 from by decide] at this
theorem ri_0_5 (v : Int32) : inI v 0 5 = (rgI 0 5 v).isSome := rgI_I 0 5 v
theorem rj_0_5 (v : Int32) : inJ v.toInt64 0 5 = (rgI 0 5 v).isSome := by
  have := rgI_J 0 5 v
  rwa [show (nI 0).toInt64 = 0 from by decide, show (nI 5).toInt64 = 5 from by decide] at this
theorem ri_1_99 (v : Int32) : inI v 1 99 = (rgI 1 99 v).isSome := rgI_I 1 99 v
theorem rj_1_99 (v : Int32) : inJ v.toInt64 1 99 = (rgI 1 99 v).isSome := by
  have := rgI_J 1 99 v
  rwa [show (nI 1).toInt64 = 1 from by decide, show (nI 99).toInt64 = 99 from by decide] at this
theorem ri_1_9 (v : Int32) : inI v 1 9 = (rgI 1 9 v).isSome := rgI_I 1 9 v
theorem rj_1_9 (v : Int32) : inJ v.toInt64 1 9 = (rgI 1 9 v).isSome := by
  have := rgI_J 1 9 v
  rwa [show (nI 1).toInt64 = 1 from by decide, show (nI 9).toInt64 = 9 from by decide] at this
theorem ri_0_99 (v : Int32) : inI v 0 99 = (rgI 0 99 v).isSome := rgI_I 0 99 v
theorem rj_0_99 (v : Int32) : inJ v.toInt64 0 99 = (rgI 0 99 v).isSome := by
  have := rgI_J 0 99 v
  rwa [show (nI 0).toInt64 = 0 from by decide, show (nI 99).toInt64 = 99 from by decide] at this
theorem ri_0_9 (v : Int32) : inI v 0 9 = (rgI 0 9 v).isSome := rgI_I 0 9 v
theorem rj_0_9 (v : Int32) : inJ v.toInt64 0 9 = (rgI 0 9 v).isSome := by
  have := rgI_J 0 9 v
  rwa [show (nI 0).toInt64 = 0 from by decide, show (nI 9).toInt64 = 9 from by decide] at this
theorem ri_0_6 (v : Int32) : inI v 0 6 = (rgI 0 6 v).isSome := rgI_I 0 6 v
theorem rj_0_6 (v : Int32) : inJ v.toInt64 0 6 = (rgI 0 6 v).isSome := by
  have := rgI_J 0 6 v
  rwa [show (nI 0).toInt64 = 0 from by decide, show (nI 6).toInt64 = 6 from by decide] at this
theorem ri_0_3 (v : Int32) : inI v 0 3 = (rgI 0 3 v).isSome := rgI_I 0 3 v
theorem rj_0_3 (v : Int32) : inJ v.toInt64 0 3 = (rgI 0 3 v).isSome := by
  have := rgI_J 0 3 v
  rwa [show (nI 0).toInt64 = 0 from by decide, show (nI 3).toInt64 = 3 from by decide] at this
theorem ri_0_255 (v : Int32) : inI v 0 255 = (rgI 0 255 v).isSome := rgI_I 0 255 v
theorem rj_0_255 (v : Int32) : inJ v.toInt64 0 255 = (rgI 0 255 v).isSome := by
  have := rgI_J 0 255 v
  rwa [show (nI 0).toInt64 = 0 from by decide, show (nI 255).toInt64 = 255 from by decide] at this
theorem ri_1_24 (v : Int32) : inI v 1 24 = (rgI 1 24 v).isSome := rgI_I 1 24 v
theorem rj_1_24 (v : Int32) : inJ v.toInt64 1 24 = (rgI 1 24 v).isSome := by
  have := rgI_J 1 24 v
  rwa [show (nI 1).toInt64 = 1 from by decide, show (nI 24).toInt64 = 24 from by decide] at this
theorem ri_3_39 (v : Int32) : inI v 3 39 = (rgI 3 39 v).isSome := rgI_I 3 39 v
theorem rj_3_39 (v : Int32) : inJ v.toInt64 3 39 = (rgI 3 39 v).isSome := by
  have := rgI_J 3 39 v
  rwa [show (nI 3).toInt64 = 3 from by decide, show (nI 39).toInt64 = 39 from by decide] at this
theorem ri_0_1 (v : Int32) : inI v 0 1 = (rgI 0 1 v).isSome := rgI_I 0 1 v
theorem rj_0_1 (v : Int32) : inJ v.toInt64 0 1 = (rgI 0 1 v).isSome := by
  have := rgI_J 0 1 v
  rwa [show (nI 0).toInt64 = 0 from by decide, show (nI 1).toInt64 = 1 from by decide] at this
theorem ri_0_8 (v : Int32) : inI v 0 8 = (rgI 0 8 v).isSome := rgI_I 0 8 v
theorem rj_0_8 (v : Int32) : inJ v.toInt64 0 8 = (rgI 0 8 v).isSome := by
  have := rgI_J 0 8 v
  rwa [show (nI 0).toInt64 = 0 from by decide, show (nI 8).toInt64 = 8 from by decide] at this
theorem ri_0_2 (v : Int32) : inI v 0 2 = (rgI 0 2 v).isSome := rgI_I 0 2 v
theorem rj_0_2 (v : Int32) : inJ v.toInt64 0 2 = (rgI 0 2 v).isSome := by
  have := rgI_J 0 2 v
  rwa [show (nI 0).toInt64 = 0 from by decide, show (nI 2).toInt64 = 2 from by decide] at this
theorem ri_1_30 (v : Int32) : inI v 1 30 = (rgI 1 30 v).isSome := rgI_I 1 30 v
theorem rj_1_30 (v : Int32) : inJ v.toInt64 1 30 = (rgI 1 30 v).isSome := by
  have := rgI_J 1 30 v
  rwa [show (nI 1).toInt64 = 1 from by decide, show (nI 30).toInt64 = 30 from by decide] at this
theorem ri_0_14 (v : Int32) : inI v 0 14 = (rgI 0 14 v).isSome := rgI_I 0 14 v
theorem rj_0_14 (v : Int32) : inJ v.toInt64 0 14 = (rgI 0 14 v).isSome := by
  have := rgI_J 0 14 v
  rwa [show (nI 0).toInt64 = 0 from by decide, show (nI 14).toInt64 = 14 from by decide] at this
theorem ri_12_16 (v : Int32) : inI v 12 16 = (rgI 12 16 v).isSome := rgI_I 12 16 v
theorem rj_12_16 (v : Int32) : inJ v.toInt64 12 16 = (rgI 12 16 v).isSome := by
  have := rgI_J 12 16 v
  rwa [show (nI 12).toInt64 = 12 from by decide, show (nI 16).toInt64 = 16 from by decide] at this
abbrev XQ : Type := Int32 × Int32 × Int32
abbrev XH : Type := Option Nat × Nat × (Nat → Int64)
abbrev XA : Type := SG × XQ × Option (SG × XQ) × (Nat × (Nat → Nat)) × (Nat → XH) × (Nat → Int32)
def aS (A : XA) : SG := A.1
def aQ (A : XA) : XQ := A.2.1
def aK (A : XA) : Option (SG × XQ) := A.2.2.1
def aP (A : XA) : Nat × (Nat → Nat) := A.2.2.2.1
def aH (A : XA) : Nat → XH := A.2.2.2.2.1
def aF (A : XA) : Nat → Int32 := A.2.2.2.2.2
def wS (A : XA) (s : SG) : XA := (s, A.2)
def wQ (A : XA) (q : XQ) : XA := (A.1, q, A.2.2)
def wK (A : XA) (k : Option (SG × XQ)) : XA := (A.1, A.2.1, k, A.2.2.2)
def wP (A : XA) (p : Nat × (Nat → Nat)) : XA := (A.1, A.2.1, A.2.2.1, p, A.2.2.2.2)
def wH (A : XA) (sh : Nat → XH) : XA := (A.1, A.2.1, A.2.2.1, A.2.2.2.1, sh, A.2.2.2.2.2)
def wF (A : XA) (f : Nat → Int32) : XA := (A.1, A.2.1, A.2.2.1, A.2.2.2.1, A.2.2.2.2.1, f)
def rfu (A : XA) (w : Nat) : XA := wF A (up (aF A) w (aF A w + 1))
def shOk (n : Nat) (e : XH) : Prop := e.2.1 ≤ 40 ∧ ∀ k, e.1 = some k → k ≤ 4 ∨ (10 ≤ k ∧ k < 10 + n)
def WF (A : XA) : Prop := SOk (aS A) ∧ (∀ k, aK A = some k → SOk k.1) ∧ (aP A).1 ≤ 250 ∧ (∀ j, j < (aP A).1 → (aP A).2 j ≤ 255) ∧ ∀ i, i < 8 → shOk (sN (aS A)) (aH A i)
/-! the class's side, at b -/
def C0 (b : Nat) (h : Hp) : Prop := CN b h ∧ gK h b = 6 ∧ gR h b 0 = some (b + 1) ∧ gR h b 1 = some (b + 37) ∧ gR h b 3 = some (b + 73) ∧ gR h b 4 = some (b + 117) ∧ gR h b 5 = some (b + 120) ∧ gR h b 6 = some (b + 121)
def ST (a : Nat) (s : SG) (q : XQ) (h : Hp) : Prop := ∃ ρ β, SQ a ρ β h ∧ SV a ρ β s h ∧ SOk s ∧ gI h a 5 = q.1 ∧ gI h a 6 = q.2.1 ∧ gI h a 7 = q.2.2
def KP (b : Nat) (k : Option (SG × XQ)) (h : Hp) : Prop := gI h b 2 = z2 k.isSome ∧ (∃ ρ β, SQ (b + 37) ρ β h) ∧ ∀ q, k = some q → ST (b + 37) q.1 q.2 h
def TR (b : Nat) (h : Hp) : Prop := ∃ ρ β, TS (b + 73) (b + 74) (b + 110) ρ β h
def TA (b : Nat) (p : Nat × (Nat → Nat)) (h : Hp) : Prop := gK h (b + 117) = 4 ∧ gR h (b + 117) 0 = some (b + 118) ∧ gR h (b + 117) 6 = some (b + 119) ∧ gK h (b + 118) = 8 ∧ gN h (b + 118) = 250 ∧ gK h (b + 119) = 8 ∧ gN h (b + 119) = 7 ∧ gI h (b + 117) 1 = nI p.1 ∧ ∀ j, j < p.1 → gI h (b + 118) j = nI (p.2 j)
def SHC (b : Nat) (sh : Nat → XH) (h : Hp) : Prop := gK h (b + 120) = 11 ∧ gN h (b + 120) = 8 ∧ ∀ i, i < 8 → gR h (b + 120) i = some (b + 122 + 2 * i) ∧ gK h (b + 122 + 2 * i) = 2 ∧ gR h (b + 122 + 2 * i) 2 = some (b + 123 + 2 * i) ∧ gK h (b + 123 + 2 * i) = 9 ∧ gN h (b + 123 + 2 * i) = 40 ∧ gI h (b + 122 + 2 * i) 0 = oI (sh i).1 ∧ gI h (b + 122 + 2 * i) 1 = nI (sh i).2.1 ∧ ∀ j, j < 40 → gJ h (b + 123 + 2 * i) j = (sh i).2.2 j
def RF (b : Nat) (f : Nat → Int32) (h : Hp) : Prop := gK h (b + 121) = 8 ∧ gN h (b + 121) = 5 ∧ ∀ j, j < 5 → gI h (b + 121) j = f j
def CL (b : Nat) (A : XA) (h : Hp) : Prop := C0 b h ∧ ST (b + 1) (aS A) (aQ A) h ∧ KP b (aK A) h ∧ TR b h ∧ TA b (aP A) h ∧ SHC b (aH A) h ∧ RF b (aF A) h
/-- what the class's calls may write -/
def CW (b : Nat) (a _ : Nat) : Prop := b ≤ a ∧ a < b + 138
section
variable {b a : Nat} {A : XA} {s : SG} {q : XQ} {k : Option (SG × XQ)} {p : Nat × (Nat → Nat)} {sh : Nat → XH} {f : Nat → Int32} {F : Nat → Nat → Prop} {h h1 : Hp}
theorem C0.fr (hC : C0 b h) (w : Fr F h h1) (hF : ∀ a j, F a j → b < a ∨ (a = b ∧ j = 2)) : C0 b h1 := by
  obtain ⟨c0, c1, c2, c3, c4, c5, c6, c7⟩ := hC
  have nF : ∀ j, j ≠ 2 → ¬ F b j := fun j hj z => by have := hF b j z; omega
  exact ⟨c0.fr w (fun a j z => by have := hF a j z; omega), w.k.trans c1, (w.r (nF _ (by decide))).trans c2, (w.r (nF _ (by decide))).trans c3, (w.r (nF _ (by decide))).trans c4, (w.r (nF _ (by decide))).trans c5, (w.r (nF _ (by decide))).trans c6, (w.r (nF _ (by decide))).trans c7⟩
theorem ST.fr (hS : ST a s q h) (w : Fr F h h1) (hF : ∀ u j, F u j → u < a ∨ a + 36 ≤ u) : ST a s q h1 := by
  obtain ⟨ρ, β, hQ, hV, hO, e5, e6, e7⟩ := hS
  have nF : ∀ j, ¬ F a j := fun j z => by have := hF a j z; omega
  exact ⟨ρ, β, hQ.fr w hF, SV.fr hQ hV hO w hF, hO, (w.i (nF _)).trans e5, (w.i (nF _)).trans e6, (w.i (nF _)).trans e7⟩
theorem KP.fr (hK : KP b k h) (w : Fr F h h1) (hF : ∀ u j, F u j → (u < b + 37 ∨ b + 73 ≤ u) ∧ ¬ (u = b ∧ j = 2)) : KP b k h1 := by
  obtain ⟨k1, ⟨ρ, β, k2⟩, k3⟩ := hK
  exact ⟨(w.i (fun z => (hF _ _ z).2 ⟨rfl, rfl⟩)).trans k1, ⟨ρ, β, k2.fr w (fun u j z => by have := (hF u j z).1; omega)⟩, fun x hx => (k3 x hx).fr w (fun u j z => by have := (hF u j z).1; omega)⟩
theorem TR.fr (hT : TR b h) (w : Fr F h h1) (hF : ∀ u j, F u j → u < b + 73 ∨ b + 117 ≤ u) : TR b h1 := by
  obtain ⟨ρ, β, t1, t2, t3, t4, t5, t6, t7⟩ := hT
  have nF : ∀ u j, b + 73 ≤ u → u < b + 117 → ¬ F u j := fun u j h1 h2 z => by have := hF u j z; omega
  exact ⟨ρ, β, w.k.trans t1, (w.r (nF _ _ (by omega) (by omega))).trans t2, (w.r (nF _ _ (by omega) (by omega))).trans t3, t4.fr w (fun j _ _ => nF _ _ (by omega) (by omega)), t5.fr w (fun u j z => by have := hF u j z; omega), t6, t7⟩
theorem TA.fr (hT : TA b p h) (hp : p.1 ≤ 250) (w : Fr F h h1) (hF : ∀ u j, F u j → u < b + 117 ∨ b + 119 ≤ u ∨ (u = b + 117 ∧ 2 ≤ j ∧ j ≤ 5)) : TA b p h1 := by
  obtain ⟨t1, t2, t3, t4, t5, t6, t7, t8, t9⟩ := hT
  exact ⟨w.k.trans t1, (w.r (fun z => by have := hF _ _ z; omega)).trans t2, (w.r (fun z => by have := hF _ _ z; omega)).trans t3, w.k.trans t4, w.n.trans t5, w.k.trans t6, w.n.trans t7, (w.i (fun z => by have := hF _ _ z; omega)).trans t8, fun j hj => (w.i (fun z => by have := hF _ _ z; omega)).trans (t9 j hj)⟩
theorem SHC.fr (hS : SHC b sh h) (w : Fr F h h1) (hF : ∀ u j, F u j → u ≠ b + 120 ∧ ¬ (b + 122 ≤ u ∧ u < b + 138)) : SHC b sh h1 := by
  obtain ⟨s1, s2, s3⟩ := hS
  refine ⟨w.k.trans s1, w.n.trans s2, fun i hi => ?_⟩
  obtain ⟨e1, e2, e3, e4, e5, e6, e7, e8⟩ := s3 i hi
  exact ⟨(w.r (fun z => (hF _ _ z).1 rfl)).trans e1, w.k.trans e2, (w.r (fun z => (hF _ _ z).2 ⟨by omega, by omega⟩)).trans e3, w.k.trans e4, w.n.trans e5, (w.i (fun z => (hF _ _ z).2 ⟨by omega, by omega⟩)).trans e6, (w.i (fun z => (hF _ _ z).2 ⟨by omega, by omega⟩)).trans e7, fun j hj => (w.j (fun z => (hF _ _ z).2 ⟨by omega, by omega⟩)).trans (e8 j hj)⟩
theorem RF.fr (hR : RF b f h) (w : Fr F h h1) (hF : ∀ u j, F u j → u ≠ b + 121) : RF b f h1 := ⟨w.k.trans hR.1, w.n.trans hR.2.1, fun j hj => (w.i (fun z => hF _ _ z rfl)).trans (hR.2.2 j hj)⟩
theorem CL.us (hC : CL b A h) (hW : WF A) (w : Fr F h h1) (hF : ∀ u j, F u j → b + 1 ≤ u ∧ u < b + 37) (hS : ST (b + 1) s q h1) : CL b (wQ (wS A s) q) h1 := by
  obtain ⟨c0, c1, c2, c3, c4, c5, c6⟩ := hC
  exact ⟨c0.fr w (fun a j z => by have := hF a j z; omega), hS, c2.fr w (fun a j z => by have := hF a j z; omega), c3.fr w (fun a j z => by have := hF a j z; omega), c4.fr hW.2.2.1 w (fun a j z => by have := hF a j z; omega), c5.fr w (fun a j z => by have := hF a j z; omega), c6.fr w (fun a j z => by have := hF a j z; omega)⟩
theorem CL.ut (hC : CL b A h) (hW : WF A) (w : Fr F h h1) (hF : ∀ u j, F u j → b + 73 ≤ u ∧ u < b + 117) (hT : TR b h1) : CL b A h1 := by
  obtain ⟨c0, c1, c2, c3, c4, c5, c6⟩ := hC
  exact ⟨c0.fr w (fun a j z => by have := hF a j z; omega), c1.fr w (fun a j z => by have := hF a j z; omega), c2.fr w (fun a j z => by have := hF a j z; omega), hT, c4.fr hW.2.2.1 w (fun a j z => by have := hF a j z; omega), c5.fr w (fun a j z => by have := hF a j z; omega), c6.fr w (fun a j z => by have := hF a j z; omega)⟩
theorem CL.up (hC : CL b A h) (w : Fr F h h1) (hF : ∀ u j, F u j → b + 117 ≤ u ∧ u < b + 120) (hT : TA b p h1) : CL b (wP A p) h1 := by
  obtain ⟨c0, c1, c2, c3, c4, c5, c6⟩ := hC
  exact ⟨c0.fr w (fun a j z => by have := hF a j z; omega), c1.fr w (fun a j z => by have := hF a j z; omega), c2.fr w (fun a j z => by have := hF a j z; omega), c3.fr w (fun a j z => by have := hF a j z; omega), hT, c5.fr w (fun a j z => by have := hF a j z; omega), c6.fr w (fun a j z => by have := hF a j z; omega)⟩
theorem CL.uh (hC : CL b A h) (hW : WF A) (w : Fr F h h1) (hF : ∀ u j, F u j → u = b + 120 ∨ (b + 122 ≤ u ∧ u < b + 138)) (hT : SHC b sh h1) : CL b (wH A sh) h1 := by
  obtain ⟨c0, c1, c2, c3, c4, c5, c6⟩ := hC
  exact ⟨c0.fr w (fun a j z => by have := hF a j z; omega), c1.fr w (fun a j z => by have := hF a j z; omega), c2.fr w (fun a j z => by have := hF a j z; omega), c3.fr w (fun a j z => by have := hF a j z; omega), c4.fr hW.2.2.1 w (fun a j z => by have := hF a j z; omega), hT, c6.fr w (fun a j z => by have := hF a j z; omega)⟩
theorem CL.uf (hC : CL b A h) (hW : WF A) (w : Fr F h h1) (hF : ∀ u j, F u j → u = b + 121) (hT : RF b f h1) : CL b (wF A f) h1 := by
  obtain ⟨c0, c1, c2, c3, c4, c5, c6⟩ := hC
  exact ⟨c0.fr w (fun a j z => by have := hF a j z; omega), c1.fr w (fun a j z => by have := hF a j z; omega), c2.fr w (fun a j z => by have := hF a j z; omega), c3.fr w (fun a j z => by have := hF a j z; omega), c4.fr hW.2.2.1 w (fun a j z => by have := hF a j z; omega), c5.fr w (fun a j z => by have := hF a j z; omega), hT⟩
theorem CL.uk (hC : CL b A h) (hW : WF A) (w : Fr F h h1) (hF : ∀ u j, F u j → (b + 37 ≤ u ∧ u < b + 73) ∨ (u = b ∧ j = 2)) (hT : KP b k h1) : CL b (wK A k) h1 := by
  obtain ⟨c0, c1, c2, c3, c4, c5, c6⟩ := hC
  exact ⟨c0.fr w (fun a j z => by have := hF a j z; omega), c1.fr w (fun a j z => by have := hF a j z; omega), hT, c3.fr w (fun a j z => by have := hF a j z; omega), c4.fr hW.2.2.1 w (fun a j z => by have := hF a j z; omega), c5.fr w (fun a j z => by have := hF a j z; omega), c6.fr w (fun a j z => by have := hF a j z; omega)⟩
end
/-! two heaps that agree below n -/
def Ag (n : Nat) (h h' : Hp) : Prop := ∀ a, a < n → gK h' a = gK h a ∧ gN h' a = gN h a ∧ ∀ j, gI h' a j = gI h a j ∧ gJ h' a j = gJ h a j ∧ gR h' a j = gR h a j
section
variable {n b a : Nat} {A : XA} {s : SG} {q : XQ} {k : Option (SG × XQ)} {p : Nat × (Nat → Nat)} {sh : Nat → XH} {f : Nat → Int32} {F : Nat → Nat → Prop} {h h1 h2 : Hp}
theorem Ag.rf : Ag n h h := fun _ _ => ⟨rfl, rfl, fun _ => ⟨rfl, rfl, rfl⟩⟩
theorem Ag.tr (w1 : Ag n h h1) (w2 : Ag n h1 h2) : Ag n h h2 := fun a ha => ⟨(w2 a ha).1.trans (w1 a ha).1, (w2 a ha).2.1.trans (w1 a ha).2.1, fun j => ⟨((w2 a ha).2.2 j).1.trans ((w1 a ha).2.2 j).1, ((w2 a ha).2.2 j).2.1.trans ((w1 a ha).2.2 j).2.1, ((w2 a ha).2.2 j).2.2.trans ((w1 a ha).2.2 j).2.2⟩⟩
theorem Ag.mo {n' : Nat} (w : Ag n h h1) (hn : n' ≤ n) : Ag n' h h1 := fun a ha => w a (by omega)
theorem Ag.of (w : Fr F h h1) (hF : ∀ a j, F a j → n ≤ a) : Ag n h h1 := fun a ha => ⟨w.k, w.n, fun j => w.2.2.2.2 a j (fun z => by have := hF a j z; omega)⟩
theorem Ag.ak (w : Ag n h h1) (ha : a < n) : gK h1 a = gK h a := (w a ha).1
theorem Ag.an (w : Ag n h h1) (ha : a < n) : gN h1 a = gN h a := (w a ha).2.1
theorem Ag.ai (w : Ag n h h1) (ha : a < n) {j : Nat} : gI h1 a j = gI h a j := ((w a ha).2.2 j).1
theorem Ag.aj (w : Ag n h h1) (ha : a < n) {j : Nat} : gJ h1 a j = gJ h a j := ((w a ha).2.2 j).2.1
theorem Ag.ar (w : Ag n h h1) (ha : a < n) {j : Nat} : gR h1 a j = gR h a j := ((w a ha).2.2 j).2.2
theorem CN.ag (hC : CN b h) (w : Ag b h h1) : CN b h1 := by
  obtain ⟨h0, h1, h2, h3⟩ := hC
  refine ⟨h0, fun j hj => ?_, (w.ai h0).trans h2, fun x hx => ?_⟩
  · obtain ⟨a, e1, e2, e3, e4, e5⟩ := h1 j hj
    exact ⟨a, e1, (w.ar h0).trans e2, by rw [w.ak e1]; exact e3, (w.an e1).trans e4, fun i hi => (w.ai e1).trans (e5 i hi)⟩
  · obtain ⟨a, v, e1, e2, e3, e4, e5, e6, e7, e8, e9⟩ := h3 x hx
    exact ⟨a, v, e1, e2, (w.ar h0).trans e3, by rw [w.ak e1]; exact e4, (w.ai e1).trans e5, (w.ar e1).trans e6, by rw [w.ak e2]; exact e7, (w.an e2).trans e8, fun i hi => (w.ai e2).trans (e9 i hi)⟩
theorem SQ.ag {ρ β : Nat → Nat} (hQ : SQ a ρ β h) (w : Ag n h h1) (hn : a + 36 ≤ n) : SQ a ρ β h1 := by
  obtain ⟨q1, q2, q3, q4, q5, q6, q7, q8, q9, q10, q11, q12, q13, q14⟩ := hQ
  refine ⟨(w.ak (by omega)).trans q1, (w.ar (by omega)).trans q2, (w.ar (by omega)).trans q3, (w.ar (by omega)).trans q4, (w.ak (by omega)).trans q5, (w.an (by omega)).trans q6, (w.ak (by omega)).trans q7, (w.an (by omega)).trans q8, (w.ak (by omega)).trans q9, (w.an (by omega)).trans q10, fun i hi => ?_, fun i hi => ?_, q13, q14⟩
  · obtain ⟨e1, e2, e3, e4, e5⟩ := q11 i hi
    exact ⟨(w.ar (by omega)).trans e1, (w.ak (by omega)).trans e2, (w.an (by omega)).trans e3, e4, e5⟩
  · obtain ⟨e1, e2, e3, e4, e5⟩ := q12 i hi
    exact ⟨(w.ar (by omega)).trans e1, (w.ak (by omega)).trans e2, (w.an (by omega)).trans e3, e4, e5⟩
theorem ST.ag (hS : ST a s q h) (w : Ag n h h1) (hn : a + 36 ≤ n) : ST a s q h1 := by
  obtain ⟨ρ, β, hQ, hV, hO, e5, e6, e7⟩ := hS
  obtain ⟨p1, p2, p3, p4, p5⟩ := hV
  refine ⟨ρ, β, hQ.ag w hn, ⟨(w.ai (by omega)).trans p1, (w.ai (by omega)).trans p2, fun t ht k hk => ?_, fun b hb k hk => ?_, fun k hk => (w.ai (by omega)).trans (p5 k hk)⟩, hO, (w.ai (by omega)).trans e5, (w.ai (by omega)).trans e6, (w.ai (by omega)).trans e7⟩
  · obtain ⟨-, -, -, e4, e5⟩ := hQ.th (Nat.lt_of_lt_of_le ht hO.1)
    exact (w.ai (by omega)).trans (p3 t ht k hk)
  · obtain ⟨-, -, -, e4, e5⟩ := hQ.by (Nat.lt_of_lt_of_le hb hO.2.1)
    exact (w.ai (by omega)).trans (p4 b hb k hk)
theorem CL.ag (hC : CL b A h) (hW : WF A) (w : Ag (b + 138) h h1) : CL b A h1 := by
  obtain ⟨⟨d0, d1, d2, d3, d4, d5, d6, d7⟩, c1, ⟨k1, ⟨ρ, β, k2⟩, k3⟩, ⟨ρ', β', t1, t2, t3, t4, t5, t6, t7⟩, ⟨a1, a2, a3, a4, a5, a6, a7, a8, a9⟩, ⟨s1, s2, s3⟩, r1, r2, r3⟩ := hC
  have hp := hW.2.2.1
  obtain ⟨w1, w2, w3, w4, w5, w6, w7, w9, w10, w11, w12, w13, w14, w15, w16, w17, w18, w19, w20⟩ := t4
  refine ⟨⟨d0.ag (w.mo (by omega)), (w.ak (by omega)).trans d1, (w.ar (by omega)).trans d2, (w.ar (by omega)).trans d3, (w.ar (by omega)).trans d4, (w.ar (by omega)).trans d5, (w.ar (by omega)).trans d6, (w.ar (by omega)).trans d7⟩, c1.ag w (by omega), ⟨(w.ai (by omega)).trans k1, ⟨ρ, β, k2.ag w (by omega)⟩, fun x hx => (k3 x hx).ag w (by omega)⟩, ⟨ρ', β', (w.ak (by omega)).trans t1, (w.ar (by omega)).trans t2, (w.ar (by omega)).trans t3, ?_, t5.ag w (by omega), t6, t7⟩, ⟨(w.ak (by omega)).trans a1, (w.ar (by omega)).trans a2, (w.ar (by omega)).trans a3, (w.ak (by omega)).trans a4, (w.an (by omega)).trans a5, (w.ak (by omega)).trans a6, (w.an (by omega)).trans a7, (w.ai (by omega)).trans a8, fun j hj => (w.ai (by omega)).trans (a9 j hj)⟩, ⟨(w.ak (by omega)).trans s1, (w.an (by omega)).trans s2, fun i hi => ?_⟩, (w.ak (by omega)).trans r1, (w.an (by omega)).trans r2, fun j hj => (w.ai (by omega)).trans (r3 j hj)⟩
  · exact ⟨(w.ak (by omega)).trans w1, (w.ar (by omega)).trans w2, (w.ar (by omega)).trans w3, (w.ar (by omega)).trans w4, (w.ar (by omega)).trans w5, (w.ar (by omega)).trans w6, (w.ar (by omega)).trans w7, (w.ak (by omega)).trans w9, (w.ak (by omega)).trans w10, (w.ak (by omega)).trans w11, (w.ak (by omega)).trans w12, (w.ak (by omega)).trans w13, (w.ak (by omega)).trans w14, (w.an (by omega)).trans w15, (w.an (by omega)).trans w16, (w.an (by omega)).trans w17, (w.an (by omega)).trans w18, (w.an (by omega)).trans w19, (w.an (by omega)).trans w20⟩
  · obtain ⟨e1, e2, e3, e4, e5, e6, e7, e8⟩ := s3 i hi
    exact ⟨(w.ar (by omega)).trans e1, (w.ak (by omega)).trans e2, (w.ar (by omega)).trans e3, (w.ak (by omega)).trans e4, (w.an (by omega)).trans e5, (w.ai (by omega)).trans e6, (w.ai (by omega)).trans e7, fun j hj => (w.aj (by omega)).trans (e8 j hj)⟩
end
