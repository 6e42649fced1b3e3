/-! THE REFERENCE'S SIDE OF THE STATE; refusals -/
def shC (o : Option Nat) : Nat := match o with
  | none => 0
  | some k => if k ≤ 4 then 1 else 2
def MCs (m : Nat) (q : XQ) (h : Hp) : Prop := gI h m 14 = q.1 ∧ gI h m 15 = q.2.1 ∧ gI h m 16 = q.2.2
def MHS (m : Nat) (sh : Nat → XH) (h : Hp) : Prop := ∀ i, i < 8 → gI h (m + 1) i = nI (shC (sh i).1) ∧ (∀ k, (sh i).1 = some k → (k ≤ 4 → gI h (m + 2) i = nI k) ∧ (10 ≤ k → gI h (m + 14) i = nI (k - 10))) ∧ gI h (m + 3) i = nI (sh i).2.1 ∧ ∀ j, j < 40 → gJ h (m + (5 + i)) j = (sh i).2.2 j
def MTA (m : Nat) (p : Nat × (Nat → Nat)) (h : Hp) : Prop := gI h m 7 = nI p.1 ∧ ∀ j, j < p.1 → gI h (m + 15) j = nI (p.2 j)
def MRF (m : Nat) (f : Nat → Int32) (h : Hp) : Prop := ∀ j, j < 5 → gI h (m + 16) (2 + j) = f j
abbrev LU : Type := Option Nat × Option Nat × Option Nat
def OB (m x : Nat) (h : Hp) : Prop := m + 59 ≤ x ∧ x + 59 ≤ gX h ∧ MSh x h ∧ PP x p0 h
def dj (x y : Nat) : Prop := x + 59 ≤ y ∨ y + 59 ≤ x
/-- the objects that are made when they are first wanted: kept, tried, marking -/
def MLZ (m : Nat) (k : Option (SG × XQ)) (u : LU) (h : Hp) : Prop := gR h m 17 = u.1 ∧ gR h m 18 = u.2.1 ∧ gR h m 19 = u.2.2 ∧ (∀ x, (u.1 = some x ∨ u.2.1 = some x ∨ u.2.2 = some x) → OB m x h) ∧ (∀ x y, u.1 = some x → u.2.1 = some y → dj x y) ∧ (∀ x y, u.1 = some x → u.2.2 = some y → dj x y) ∧ (∀ x y, u.2.1 = some x → u.2.2 = some y → dj x y) ∧
  k.isSome = u.1.isSome ∧ ∀ q x, k = some q → u.1 = some x → SOk q.1 ∧ MP x q.1 h ∧ MCs x q.2 h
def MR (m : Nat) (u : LU) (A : XA) (h : Hp) : Prop := m + 59 ≤ gX h ∧ MSh m h ∧ PP m p0 h ∧ MP m (aS A) h ∧ MCs m (aQ A) h ∧ MHS m (aH A) h ∧ MTA m (aP A) h ∧ MRF m (aF A) h ∧ MLZ m (aK A) u h
/-- what the reference's calls may do -/
def MG (m : Nat) (h h2 : Hp) : Prop := Ag m h h2 ∧ gX h ≤ gX h2 ∧ gX h2 ≤ gX h + 200 ∧ gS h2 ≤ gS h + 4000
/-- scratch; scratch and the stall -/
def MZ (m a j : Nat) : Prop := a < m ∨ (a = m ∧ ((20 ≤ j ∧ j ≤ 24) ∨ j = 26 ∨ j = 39)) ∨ (m + 52 ≤ a ∧ a ≤ m + 58)
def MY (m a j : Nat) : Prop := a < m ∨ (a = m ∧ (j = 9 ∨ j = 11 ∨ (14 ≤ j ∧ j ≤ 16) ∨ (20 ≤ j ∧ j ≤ 24) ∨ j = 26 ∨ (29 ≤ j ∧ j ≤ 35) ∨ j = 39)) ∨ (m + 18 ≤ a ∧ a < m + 26) ∨ (m + 27 ≤ a ∧ a ≤ m + 58)
section
variable {m : Nat} {u : LU} {A : XA} {s : SG} {q : XQ} {k : Option (SG × XQ)} {p : Nat × (Nat → Nat)} {sh : Nat → XH} {f : Nat → Int32} {F : Nat → Nat → Prop} {h h1 h2 : Hp}
theorem MG.of (w : Fr F h h1) (hF : ∀ a j, F a j → m ≤ a) : MG m h h1 := ⟨Ag.of w hF, by rw [w.2.2.1]; omega, by rw [w.2.2.1]; omega, by rw [w.2.2.2.1]; omega⟩
theorem MCs.fr (hQ : MCs m q h) (w : Fr F h h1) (hF : ∀ j, 14 ≤ j → j ≤ 16 → ¬ F m j) : MCs m q h1 := ⟨(w.i (hF _ (by omega) (by omega))).trans hQ.1, (w.i (hF _ (by omega) (by omega))).trans hQ.2.1, (w.i (hF _ (by omega) (by omega))).trans hQ.2.2⟩
theorem MHS.fr (hS : MHS m sh h) (w : Fr F h h1) (hF : ∀ a j, F a j → ¬ (m + 1 ≤ a ∧ a ≤ m + 3) ∧ ¬ (m + 5 ≤ a ∧ a < m + 13) ∧ a ≠ m + 14) : MHS m sh h1 := fun i hi => by
  obtain ⟨e1, e2, e3, e4⟩ := hS i hi
  exact ⟨(w.i (fun z => by have := hF _ _ z; omega)).trans e1, fun k hk => ⟨fun hk2 => (w.i (fun z => by have := hF _ _ z; omega)).trans ((e2 k hk).1 hk2), fun hk2 => (w.i (fun z => by have := hF _ _ z; omega)).trans ((e2 k hk).2 hk2)⟩, (w.i (fun z => by have := hF _ _ z; omega)).trans e3, fun j hj => (w.j (fun z => by have := hF _ _ z; omega)).trans (e4 j hj)⟩
theorem MTA.fr (hT : MTA m p h) (w : Fr F h h1) (hF : ∀ a j, F a j → ¬ (a = m ∧ j = 7) ∧ a ≠ m + 15) : MTA m p h1 := ⟨(w.i (fun z => (hF _ _ z).1 ⟨rfl, rfl⟩)).trans hT.1, fun j hj => (w.i (fun z => (hF _ _ z).2 rfl)).trans (hT.2 j hj)⟩
theorem MRF.fr (hT : MRF m f h) (w : Fr F h h1) (hF : ∀ a j, F a j → a ≠ m + 16) : MRF m f h1 := fun j hj => (w.i (fun z => hF _ _ z rfl)).trans (hT j hj)
theorem OB.fr {x : Nat} (hO : OB m x h) (w : Fr F h h1) (hF : ∀ a j, F a j → a < x ∨ x + 59 ≤ a) : OB m x h1 := by
  obtain ⟨o1, o2, o3, o4⟩ := hO
  exact ⟨o1, by rw [w.2.2.1]; exact o2, o3.fr w (fun a j z => by have := hF a j z; exact ⟨by omega, fun y => by omega⟩), o4.fr w (fun j _ _ z => by have := hF _ _ z; omega)⟩
theorem MLZ.fr (hL : MLZ m k u h) (w : Fr F h h1) (hF : ∀ a j, F a j → a < m + 59 ∧ ¬ (a = m ∧ 17 ≤ j ∧ j ≤ 19)) : MLZ m k u h1 := by
  obtain ⟨l1, l2, l3, l4, l5, l6, l7, l8, l9⟩ := hL
  refine ⟨(w.r (fun z => (hF _ _ z).2 ⟨rfl, by omega, by omega⟩)).trans l1, (w.r (fun z => (hF _ _ z).2 ⟨rfl, by omega, by omega⟩)).trans l2, (w.r (fun z => (hF _ _ z).2 ⟨rfl, by omega, by omega⟩)).trans l3, fun x hx => (l4 x hx).fr w (fun a j z => by have := (hF a j z).1; have := (l4 x hx).1; omega), l5, l6, l7, l8, fun q x hq hx => ?_⟩
  obtain ⟨y1, y2, y3⟩ := l9 q x hq hx
  have hb := (l4 x (Or.inl hx)).1
  exact ⟨y1, y2.fr y1 w (fun a j z => by have := (hF a j z).1; exact ⟨fun y => by omega, fun y => by omega, fun y => by omega⟩), y3.fr w (fun j _ _ z => by have := (hF _ _ z).1; omega)⟩
theorem MSh.my (hM : MSh m h) (w : Fr F h h1) (hF : ∀ a j, F a j → MY m a j) : MSh m h1 := hM.fr w (fun a j z => by
  have hy := hF a j z
  unfold MY at hy
  refine ⟨by omega, fun v => ?_⟩
  have hj : j = 9 ∨ j = 11 ∨ (14 ≤ j ∧ j ≤ 16) ∨ (20 ≤ j ∧ j ≤ 24) ∨ j = 26 ∨ (29 ≤ j ∧ j ≤ 35) ∨ j = 39 := by omega
  have hv := v.2
  have key : ∀ j ∈ mfL.map (fun q => q.1), ¬ (j = 9 ∨ j = 11 ∨ (14 ≤ j ∧ j ≤ 16) ∨ (20 ≤ j ∧ j ≤ 24) ∨ j = 26 ∨ (29 ≤ j ∧ j ≤ 35) ∨ j = 39) := by decide
  exact key j hv hj)
theorem MR.upd (hR : MR m u A h) (hW : WF A) (w : Fr F h h1) (hF : ∀ a j, F a j → MY m a j) (hp : PP m p0 h1) (hP : MP m s h1) (hQ : MCs m q h1) : MR m u (wQ (wS A s) q) h1 := by
  obtain ⟨r0, r1, r2, r3, r4, r5, r6, r7, r8⟩ := hR
  exact ⟨by rw [w.2.2.1]; exact r0, r1.my w hF, hp, hP, hQ, r5.fr w (fun a j z => by have := hF a j z; unfold MY at this; omega), r6.fr w (fun a j z => by have := hF a j z; unfold MY at this; omega), r7.fr w (fun a j z => by have := hF a j z; unfold MY at this; omega), r8.fr w (fun a j z => by have := hF a j z; unfold MY at this; omega)⟩
theorem MZ.y {a j : Nat} (z : MZ m a j) : MY m a j := by unfold MZ at z; unfold MY; omega
theorem MR.sc (hR : MR m u A h) (hW : WF A) (w : Fr F h h1) (hF : ∀ a j, F a j → MZ m a j) : MR m u A h1 := by
  obtain ⟨-, -, r2, r3, r4, -⟩ := id hR
  have := hR.upd hW w (fun a j z => (hF a j z).y) (r2.fr w (fun j h1 h2 z => by have := hF _ _ z; unfold MZ at this; omega)) (r3.fr hW.1 w (fun a j z => by have := hF _ _ z; unfold MZ at this; exact ⟨fun y => by omega, fun y => by omega, fun y => by omega⟩)) (r4.fr w (fun j h1 h2 z => by have := hF _ _ z; unfold MZ at this; omega))
  exact this
theorem DW.z {a j : Nat} (z : DW m a j) : MZ m a j := by unfold DW at z; unfold MZ; omega
theorem MR.uf (hR : MR m u A h) (hW : WF A) (w : Fr F h h1) (hF : ∀ a j, F a j → a = m + 16) (hf : MRF m f h1) : MR m u (wF A f) h1 := by
  obtain ⟨r0, r1, r2, r3, r4, r5, r6, r7, r8⟩ := hR
  exact ⟨by rw [w.2.2.1]; exact r0, r1.fr w (fun a j z => by have := hF a j z; exact ⟨by omega, fun v => by omega⟩), r2.fr w (fun j _ _ z => by have := hF _ _ z; omega), r3.fr hW.1 w (fun a j z => by have := hF _ _ z; exact ⟨fun y => by omega, fun y => by omega, fun y => by omega⟩), r4.fr w (fun j _ _ z => by have := hF _ _ z; omega), r5.fr w (fun a j z => by have := hF a j z; omega), r6.fr w (fun a j z => by have := hF a j z; omega), hf, r8.fr w (fun a j z => by have := hF a j z; omega)⟩
theorem MR.uh (hR : MR m u A h) (hW : WF A) (w : Fr F h h1) (hF : ∀ a j, F a j → (m + 1 ≤ a ∧ a ≤ m + 3) ∨ (m + 5 ≤ a ∧ a ≤ m + 14)) (hf : MHS m sh h1) : MR m u (wH A sh) h1 := by
  obtain ⟨r0, r1, r2, r3, r4, r5, r6, r7, r8⟩ := hR
  exact ⟨by rw [w.2.2.1]; exact r0, r1.fr w (fun a j z => by have := hF a j z; exact ⟨by omega, fun v => by omega⟩), r2.fr w (fun j _ _ z => by have := hF _ _ z; omega), r3.fr hW.1 w (fun a j z => by have := hF _ _ z; exact ⟨fun y => by omega, fun y => by omega, fun y => by omega⟩), r4.fr w (fun j _ _ z => by have := hF _ _ z; omega), hf, r6.fr w (fun a j z => by have := hF a j z; omega), r7.fr w (fun a j z => by have := hF a j z; omega), r8.fr w (fun a j z => by have := hF a j z; omega)⟩
theorem MR.up (hR : MR m u A h) (hW : WF A) (w : Fr F h h1) (hF : ∀ a j, F a j → (a = m ∧ (j = 7 ∨ (20 ≤ j ∧ j ≤ 24) ∨ j = 26)) ∨ a = m + 15 ∨ a = m + 52) (hf : MTA m p h1) : MR m u (wP A p) h1 := by
  obtain ⟨r0, r1, r2, r3, r4, r5, r6, r7, r8⟩ := hR
  refine ⟨by rw [w.2.2.1]; exact r0, r1.fr w (fun a j z => by have hy := hF a j z; refine ⟨by omega, fun v => ?_⟩; have hj : j = 7 ∨ (20 ≤ j ∧ j ≤ 24) ∨ j = 26 := by omega
                                                              have key : ∀ j ∈ mfL.map (fun q => q.1), ¬ (j = 7 ∨ (20 ≤ j ∧ j ≤ 24) ∨ j = 26) := by decide
                                                              exact key j v.2 hj), r2.fr w (fun j _ _ z => by have := hF _ _ z; omega), r3.fr hW.1 w (fun a j z => by have := hF _ _ z; exact ⟨fun y => by omega, fun y => by omega, fun y => by omega⟩), r4.fr w (fun j _ _ z => by have := hF _ _ z; omega), r5.fr w (fun a j z => by have := hF a j z; omega), hf, r7.fr w (fun a j z => by have := hF a j z; omega), r8.fr w (fun a j z => by have := hF a j z; omega)⟩
/-- the class's calls leave the reference's side -/
theorem MR.cw {b : Nat} (hR : MR (b + 138) u A h) (hW : WF A) (w : Fr (CW b) h h1) : MR (b + 138) u A h1 := hR.sc hW w (fun a j z => Or.inl z.2)
end
/-! refusals; whether it is a shelf, a thing, a buyer -/
section
variable {b m : Nat} {u : LU} {A : XA} {h h1 : Hp} {K : Option Value → Hp → Prop}
theorem k108 (hC : CL b A h) (hW : WF A) {x : Int32} {w : Nat} (hw : w < 5) (hx : -2 - x = nI w) (kk : ∀ h2, Fr (CW b) h h2 → CL b (rfu A w) h2 → K (some (.int x)) h2) : AM 108 [.ref b, .int x] h K := by
  obtain ⟨⟨cn, kb, f0, f1, f3, f4, f5, f6⟩, hST, hKP, hTR, hTA, hSH, r1, r2, r3⟩ := id hC
  have c1 : (nI w).toNatClampNeg = w := nIc (by omega)
  have i1 : inb (nI w) 5 = True := nIb hw (by omega)
  have h4 : inI (nI w) 0 4 = true := inI_t.mpr ⟨nI_pos' (by omega), nI_le (b := 4) (by omega) (by decide)⟩
  simp only [v108_0, v108_2, v108_3, v108_4, v108_5, v108_6, v108_7, v108_8, v108_11, v108_14, v108_15, v108_18, v108_19, v108_20, v108_21, v108_22, v108_23, v108_24, v108_25, e108, hx, c123, h4, z2_t, i10, pu_s, kb, f0, f1, f3, f4, f5, f6, vrf_s, true_and, true_or, or_true, and_self, not_false_eq_true, pu_s, pu_n, z2_e0, z2_n0, z2_t, z2_f, r1, r2, c1, i1, reduceIte, r3 w hw]
  have q : Fr (fun a _ => a = b + 121) h (pI h (b + 121) w (aF A w + 1)) := Fr.rf.pI rfl
  refine kk _ (q.mo (fun a j z => ⟨by omega, by omega⟩)) (hC.uf hW q (fun a j z => z) ⟨r1, r2, fun j hj => ?_⟩)
  by_cases e : j = w
  · subst e
    rw [gI_at, up_at]
  · rw [gI_ne (fun z => e z.2), up_ne e]
    exact r3 j hj
theorem k109 (hC : CL b A h) (hW : WF A) {x : Int32} {w : Nat} (hw : w < 5) (hx : -2 - x = nI w) (kk : ∀ h2, Fr (CW b) h h2 → CL b (rfu A w) h2 → K (some (.int (-1000000 + x))) h2) : AM 109 [.ref b, .int x] h K := by
  obtain ⟨⟨cn, kb, f0, f1, f3, f4, f5, f6⟩, -⟩ := id hC
  simp only [v109_0, v109_3, v109_4, v109_5, v109_8, v109_9, e109, kb, true_and]
  exact k108 hC hW hw hx (fun h2 q2 hC2 => by simp only [pu_s, v109_0, v109_3, v109_4, v109_5, v109_8, v109_9]; exact kk h2 q2 hC2)
theorem k110 (hC : CL b A h) (s : Int32) : AM 110 [.ref b, .int s] h K = K (some (.int (z2 (rgI 0 7 s).isSome))) h := by
  simp only [v110_0, v110_1, v110_2, v110_4, v110_7, e110, c123, pu_s, bo_z2, true_and, ri_0_7]
theorem k111 (hC : CL b A h) (hW : WF A) (t : Int32) : AM 111 [.ref b, .int t] h K = K (some (.int (z2 (thI (sN (aS A)) t).isSome))) h := by
  obtain ⟨⟨cn, kb, f0, f1, f3, f4, f5, f6⟩, ⟨ρ, β, hQ, hV, -⟩, -⟩ := id hC
  have s1 := hQ.1
  have hn := hW.1.1
  simp only [v111_0, v111_1, v111_2, v111_3, v111_6, v111_9, v111_10, v111_11, v111_14, e111, kb, f0, f1, f3, f4, f5, f6, vrf_s, true_and, true_or, or_true, and_self, not_false_eq_true, pu_s, pu_n, z2_e0, z2_n0, z2_t, z2_f, s1, hV.1, c123, bo_z2, thI_I (show sN (aS A) ≤ 1000000 by omega)]
theorem k112 (hC : CL b A h) (hW : WF A) (t : Int32) : AM 112 [.ref b, .int t] h K = K (some (.int (z2 (thI (sM (aS A)) t).isSome))) h := by
  obtain ⟨⟨cn, kb, f0, f1, f3, f4, f5, f6⟩, ⟨ρ, β, hQ, hV, -⟩, -⟩ := id hC
  have s1 := hQ.1
  have hn := hW.1.2.1
  simp only [v112_0, v112_1, v112_2, v112_3, v112_6, v112_9, v112_10, v112_11, v112_14, e112, kb, f0, f1, f3, f4, f5, f6, vrf_s, true_and, true_or, or_true, and_self, not_false_eq_true, pu_s, pu_n, z2_e0, z2_n0, z2_t, z2_f, s1, hV.2.1, c123, bo_z2, thI_I (show sM (aS A) ≤ 1000000 by omega)]
theorem k134 (hR : MR m u A h) (hW : WF A) {x : Int32} {w : Nat} (hw : w < 5) (hx : -x = nI (2 + w)) (kk : ∀ h2, Fr (fun a _ => a = m + 16) h h2 → MR m u (rfu A w) h2 → K (some (.int x)) h2) : AM 134 [.ref m, .int x] h K := by
  obtain ⟨r0, hM, -, -, -, -, -, r7, -⟩ := id hR
  have c1 : (nI (2 + w)).toNatClampNeg = 2 + w := nIc (by omega)
  have i1 : inb (nI (2 + w)) 8 = True := nIb (by omega) (by omega)
  simp only [v134_0, v134_1, v134_4, v134_5, v134_6, v134_7, v134_8, v134_9, v134_10, v134_11, v134_12, e134, hx, hM.f0, hM.f1, hM.f2, hM.f3, hM.f4, hM.f5, hM.f6, hM.f8, hM.f10, hM.f12, hM.f13, hM.f25, hM.f27, hM.f28, hM.f36, hM.f37, hM.f38, hM.f40, hM.k0, hM.k1, hM.k2, hM.k3, hM.k4, hM.k13, hM.k14, hM.k15, hM.k16, hM.k17, hM.k26, hM.k51, hM.k52, hM.k53, hM.k54, hM.k55, hM.k56, hM.k57, hM.k58, hM.n1, hM.n2, hM.n3, hM.n4, hM.n13, hM.n14, hM.n15, hM.n16, hM.n17, hM.n26, hM.n51, hM.n52, hM.n53, hM.n54, hM.n55, hM.n56, hM.n57, hM.n58, vrf_s, true_or, or_true, true_and, and_true, and_self, not_false_eq_true, c1, i1, r7 w hw]
  have q : Fr (fun a _ => a = m + 16) h (pI h (m + 16) (2 + w) (aF A w + 1)) := Fr.rf.pI rfl
  refine kk _ q (hR.uf hW q (fun a j z => z) (fun j hj => ?_))
  by_cases e : j = w
  · subst e
    rw [gI_at, up_at]
  · rw [gI_ne (fun z => e (by omega)), up_ne e]
    exact r7 j hj
theorem k136 (hR : MR m u A h) (hW : WF A) (t : Int32) : AM 136 [.ref m, .int t] h K = K (some (.int (z2 (thI (sN (aS A)) t).isSome))) h := by
  obtain ⟨r0, hM, -, hP, -⟩ := id hR
  have hn := hW.1.1
  simp only [v136_0, v136_1, v136_2, v136_3, v136_4, v136_7, v136_8, v136_9, v136_10, v136_13, e136, hM.f0, hM.f1, hM.f2, hM.f3, hM.f4, hM.f5, hM.f6, hM.f8, hM.f10, hM.f12, hM.f13, hM.f25, hM.f27, hM.f28, hM.f36, hM.f37, hM.f38, hM.f40, hM.k0, hM.k1, hM.k2, hM.k3, hM.k4, hM.k13, hM.k14, hM.k15, hM.k16, hM.k17, hM.k26, hM.k51, hM.k52, hM.k53, hM.k54, hM.k55, hM.k56, hM.k57, hM.k58, hM.n1, hM.n2, hM.n3, hM.n4, hM.n13, hM.n14, hM.n15, hM.n16, hM.n17, hM.n26, hM.n51, hM.n52, hM.n53, hM.n54, hM.n55, hM.n56, hM.n57, hM.n58, vrf_s, true_or, or_true, true_and, and_true, and_self, not_false_eq_true, hP.1, c135, pu_s, bo_z2, true_and, thI_J (show sN (aS A) ≤ 1000000 by omega)]
theorem k137 (hR : MR m u A h) (hW : WF A) (t : Int32) : AM 137 [.ref m, .int t] h K = K (some (.int (z2 (thI (sM (aS A)) t).isSome))) h := by
  obtain ⟨r0, hM, -, hP, -⟩ := id hR
  have hn := hW.1.2.1
  simp only [v137_0, v137_1, v137_2, v137_3, v137_4, v137_7, v137_8, v137_9, v137_10, v137_13, e137, hM.f0, hM.f1, hM.f2, hM.f3, hM.f4, hM.f5, hM.f6, hM.f8, hM.f10, hM.f12, hM.f13, hM.f25, hM.f27, hM.f28, hM.f36, hM.f37, hM.f38, hM.f40, hM.k0, hM.k1, hM.k2, hM.k3, hM.k4, hM.k13, hM.k14, hM.k15, hM.k16, hM.k17, hM.k26, hM.k51, hM.k52, hM.k53, hM.k54, hM.k55, hM.k56, hM.k57, hM.k58, hM.n1, hM.n2, hM.n3, hM.n4, hM.n13, hM.n14, hM.n15, hM.n16, hM.n17, hM.n26, hM.n51, hM.n52, hM.n53, hM.n54, hM.n55, hM.n56, hM.n57, hM.n58, vrf_s, true_or, or_true, true_and, and_true, and_self, not_false_eq_true, hP.2.1, c135, pu_s, bo_z2, true_and, thI_J (show sM (aS A) ≤ 1000000 by omega)]
end
