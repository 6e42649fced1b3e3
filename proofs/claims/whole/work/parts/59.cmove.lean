/-! THE CLASS'S STALL: things change places, buyers go home, marks, draws -/
def sgu (f t i : Nat) : Nat := if i < f then i else if i < t then i + 1 else if i = t then f else i
theorem sgu_lt {f t i : Nat} (hf : f ≤ t) (ht : t < 8) (hi : i < 8) : sgu f t i < 8 := by unfold sgu; split <;> (try split) <;> (try split) <;> omega
theorem sgu_inj {f t i j : Nat} (hf : f ≤ t) (h : sgu f t i = sgu f t j) : i = j := by
  unfold sgu at h
  by_cases i1 : i < f
  · rw [if_pos i1] at h
    by_cases j1 : j < f
    · rw [if_pos j1] at h; exact h
    · rw [if_neg j1] at h
      split at h
      · omega
      · split at h <;> omega
  · rw [if_neg i1] at h
    by_cases j1 : j < f
    · rw [if_pos j1] at h
      split at h
      · omega
      · split at h <;> omega
    · rw [if_neg j1] at h
      split at h
      · split at h
        · omega
        · split at h <;> omega
      · split at h
        · split at h
          · omega
          · split at h <;> omega
        · split at h
          · omega
          · split at h <;> omega
/-- without a thing; a thing ahead of all; two change; marks; fewer buyers -/
def rmS (s : SG) (t : Nat) : SG := (sN s - 1, sM s, fun u => if u < t then sT s u else sT s (u + 1), sB s, sA s)
def mvS (s : SG) (t : Nat) : SG := (sN s, sM s, fun u => if u = 0 then sT s t else if u ≤ t then sT s (u - 1) else sT s u, sB s, sA s)
def swS (s : SG) (t v : Nat) : SG := (sN s, sM s, fun u => if u = t then sT s v else if u = v then sT s t else sT s u, sB s, sA s)
def sgK (s : SG) (mk : Nat → Nat) : SG := (sN s, sM s, fun t k => if k = 5 ∧ t < sN s then mk t else sT s t k, sB s, sA s)
def ctS (s : SG) (n : Nat) : SG := (sN s, n, sT s, sB s, sA s)
theorem SOk.rm {s : SG} (hO : SOk s) {t : Nat} (ht : t < sN s) : SOk (rmS s t) := by
  obtain ⟨o1, o2, o3, o4⟩ := hO
  refine ⟨Nat.le_trans (Nat.sub_le _ _) o1, o2, fun u hu => ?_, o4⟩
  have hu' : u < sN s - 1 := hu
  have e : sT (rmS s t) u = if u < t then sT s u else sT s (u + 1) := rfl
  rw [e]
  split
  · exact o3 u (by omega)
  · exact o3 (u + 1) (by omega)
theorem SOk.mv {s : SG} (hO : SOk s) {t : Nat} (ht : t < sN s) : SOk (mvS s t) := by
  obtain ⟨o1, o2, o3, o4⟩ := hO
  refine ⟨o1, o2, fun u hu => ?_, o4⟩
  have hu' : u < sN s := hu
  have e : sT (mvS s t) u = if u = 0 then sT s t else if u ≤ t then sT s (u - 1) else sT s u := rfl
  rw [e]
  split
  · exact o3 t ht
  · split
    · exact o3 (u - 1) (by omega)
    · exact o3 u hu'
theorem SOk.sw {s : SG} (hO : SOk s) {t v : Nat} (ht : t < sN s) (hv : v < sN s) : SOk (swS s t v) := by
  obtain ⟨o1, o2, o3, o4⟩ := hO
  refine ⟨o1, o2, fun u hu => ?_, o4⟩
  have hu' : u < sN s := hu
  have e : sT (swS s t v) u = if u = t then sT s v else if u = v then sT s t else sT s u := rfl
  rw [e]
  split
  · exact o3 v hv
  · split
    · exact o3 t ht
    · exact o3 u hu'
theorem SOk.mks {s : SG} (hO : SOk s) {mk : Nat → Nat} (hm : ∀ t, t < sN s → mk t ≤ 99) : SOk (sgK s mk) := by
  obtain ⟨o1, o2, o3, o4⟩ := hO
  refine ⟨o1, o2, fun u hu => ?_, o4⟩
  have hu' : u < sN s := hu
  have e : ∀ k, sT (sgK s mk) u k = if k = 5 ∧ u < sN s then mk u else sT s u k := fun _ => rfl
  obtain ⟨x0, x1, x2, x3, x4, x5, x6, x7, x8⟩ := o3 u hu'
  rw [e, e, e, e, e, e, e, if_neg (by omega), if_neg (by omega), if_neg (by omega), if_neg (by omega), if_neg (by omega), if_pos ⟨rfl, hu'⟩, if_neg (by omega)]
  exact ⟨x0, x1, x2, x3, x4, x5, x6, hm u hu', x8⟩
theorem SOk.ct {s : SG} (hO : SOk s) {n : Nat} (hn : n ≤ sM s) : SOk (ctS s n) := by
  obtain ⟨o1, o2, o3, o4, o5, o6⟩ := hO
  exact ⟨o1, Nat.le_trans hn o2, o3, fun b hb => o4 b (Nat.lt_of_lt_of_le hb hn), fun b c hbc hc => o5 b c hbc (Nat.lt_of_lt_of_le hc hn), o6⟩
section
variable {a : Nat} {ρ β : Nat → Nat} {s : SG} {F : Nat → Nat → Prop} {h h1 : Hp} {K : Option Value → Hp → Prop}
def PT1 (a : Nat) (x _ : Nat) : Prop := x = a + 1
theorem c23_a (hQ : SQ a ρ β h) {f t : Nat} (hft : f ≤ t) (ht : t < 8) (v3 : Value) (kk : ∀ h2, Fr (PT1 a) h h2 → (∀ i, i < 8 → gR h2 (a + 1) i = some (if f ≤ i ∧ i < t then ρ (i + 1) else ρ i)) → V 23 38 [.ref a, .int (nI f), .int (nI t), v3, .int (nI t)] [] h2 K) :
    ∀ (j x : Nat) (h1 : Hp), x + j = t → f ≤ x → Fr (PT1 a) h h1 → (∀ i, i < 8 → gR h1 (a + 1) i = some (if f ≤ i ∧ i < x then ρ (i + 1) else ρ i)) → V 23 10 [.ref a, .int (nI f), .int (nI t), v3, .int (nI x)] [] h1 K := by
  intro j
  induction j with
  | zero =>
    intro x h1 hx hfx hf hz
    have e : x = t := by omega
    subst e
    have e8 : (nI x ≤ nI x) = True := eq_true (nI_le (Nat.le_refl _) (by omega))
    simp only [v23_10, v23_12, v23_13, e8, reduceIte]
    exact kk h1 hf hz
  | succ j ih =>
    intro x h1 hx hfx hf hz
    have e8 : (nI t ≤ nI x) = False := eq_false (nI_ge (by omega) (by omega))
    obtain ⟨s1, s2, s3, s4, s5, s6, s7, s8, s9, s10, -⟩ := id hQ
    have y1 : gK h1 a = 3 := hf.k.trans s1
    have y2 : gR h1 a 0 = some (a + 1) := (hf.r (fun z => by unfold PT1 at z; omega)).trans s2
    have y5 : gK h1 (a + 1) = 12 := hf.k.trans s5
    have y6 : gN h1 (a + 1) = 8 := hf.n.trans s6
    have k2 : gK h1 (ρ (x + 1)) = 8 := hf.k.trans (hQ.th (show x + 1 < 8 by omega)).2.1
    have c1 : (nI x).toNatClampNeg = x := nIc (by omega)
    have i1 : inb (nI x) 8 = True := nIb (by omega) (by omega)
    have c2 : (nI (x + 1)).toNatClampNeg = x + 1 := nIc (by omega)
    have i2 : inb (nI (x + 1)) 8 = True := nIb (by omega) (by omega)
    have rx : gR h1 (a + 1) (x + 1) = some (ρ (x + 1)) := by rw [hz (x + 1) (by omega), if_neg (by omega)]
    simp only [v23_10, v23_12, v23_13, v23_16, v23_17, v23_20, v23_22, v23_23, v23_26, v23_28, v23_29, v23_30, v23_31, v23_32, e8, reduceIte, y1, y2, y5, y6, vrf_s, nI_1, c1, i1, c2, i2, rx, k2, true_and, true_or, or_true, and_self]
    rw [v23_35]
    refine ih (x + 1) _ (by omega) (by omega) (hf.pR rfl) (fun i hi => ?_)
    by_cases e : i = x
    · subst e
      rw [gR_at, if_pos ⟨hfx, by omega⟩]
    · rw [gR_ne (fun z => e z.2), hz i hi]
      by_cases e2 : f ≤ i ∧ i < x
      · rw [if_pos e2, if_pos ⟨e2.1, by omega⟩]
      · rw [if_neg e2, if_neg (fun z => e2 ⟨z.1, by omega⟩)]
theorem c23_b (hQ : SQ a ρ β h) {f t : Nat} (htf : t ≤ f) (hf8 : f < 8) (kk : ∀ h2, Fr (PT1 a) h h2 → (∀ i, i < 8 → gR h2 (a + 1) i = some (ρ (sgm f t i))) → K none h2) :
    ∀ (x : Nat) (h1 : Hp), t ≤ x → x ≤ f → Fr (PT1 a) h h1 → (∀ i, i < 8 → gR h1 (a + 1) i = some (if x < i ∧ i ≤ f then ρ (i - 1) else ρ i)) → V 23 41 [.ref a, .int (nI f), .int (nI t), .ref (ρ f), .int (nI x)] [] h1 K := by
  obtain ⟨s1, s2, s3, s4, s5, s6, s7, s8, s9, s10, -⟩ := id hQ
  intro x
  induction x with
  | zero =>
    intro h1 h0 hxf hf hz
    have e : t = 0 := by omega
    subst e
    have e8 : (nI 0 ≤ nI 0) = True := eq_true (by decide)
    have y1 : gK h1 a = 3 := hf.k.trans s1
    have y2 : gR h1 a 0 = some (a + 1) := (hf.r (fun z => by unfold PT1 at z; omega)).trans s2
    have y5 : gK h1 (a + 1) = 12 := hf.k.trans s5
    have y6 : gN h1 (a + 1) = 8 := hf.n.trans s6
    have k2 : gK h1 (ρ f) = 8 := hf.k.trans (hQ.th hf8).2.1
    have c1 : (nI 0).toNatClampNeg = 0 := nIc (by omega)
    have i1 : inb (nI 0) 8 = True := nIb (by omega) (by omega)
    simp only [v23_41, v23_43, v23_44, v23_69, v23_70, v23_73, v23_74, v23_75, v23_76, e8, reduceIte, y1, y2, y5, y6, vrf_s, c1, i1, k2, true_and, true_or, or_true, and_self]
    refine kk _ (hf.pR rfl) (fun i hi => ?_)
    unfold sgm
    by_cases e : i = 0
    · subst e
      rw [gR_at, if_neg (by omega), if_pos rfl]
    · rw [gR_ne (fun z => e z.2), hz i hi, if_neg (Nat.not_lt_zero i), if_neg e]
      by_cases e2 : i ≤ f
      · rw [if_pos ⟨by omega, e2⟩, if_pos e2]
      · rw [if_neg (fun z => e2 z.2), if_neg e2]
  | succ x ih =>
    intro h1 h0 hxf hf hz
    have y1 : gK h1 a = 3 := hf.k.trans s1
    have y2 : gR h1 a 0 = some (a + 1) := (hf.r (fun z => by unfold PT1 at z; omega)).trans s2
    have y5 : gK h1 (a + 1) = 12 := hf.k.trans s5
    have y6 : gN h1 (a + 1) = 8 := hf.n.trans s6
    by_cases g : t = x + 1
    · subst g
      have e8 : (nI (x + 1) ≤ nI (x + 1)) = True := eq_true (nI_le (Nat.le_refl _) (by omega))
      have k2 : gK h1 (ρ f) = 8 := hf.k.trans (hQ.th hf8).2.1
      have c1 : (nI (x + 1)).toNatClampNeg = x + 1 := nIc (by omega)
      have i1 : inb (nI (x + 1)) 8 = True := nIb (by omega) (by omega)
      simp only [v23_41, v23_43, v23_44, v23_69, v23_70, v23_73, v23_74, v23_75, v23_76, e8, reduceIte, y1, y2, y5, y6, vrf_s, c1, i1, k2, true_and, true_or, or_true, and_self]
      refine kk _ (hf.pR rfl) (fun i hi => ?_)
      unfold sgm
      by_cases e : i = x + 1
      · subst e
        rw [gR_at, if_neg (by omega), if_pos rfl]
      · rw [gR_ne (fun z => e z.2), hz i hi]
        by_cases e1 : i < x + 1
        · rw [if_neg (by omega), if_pos e1]
        · rw [if_neg e1, if_neg e]
          by_cases e2 : i ≤ f
          · rw [if_pos ⟨by omega, e2⟩, if_pos e2]
          · rw [if_neg (fun z => e2 z.2), if_neg e2]
    · have e8 : (nI (x + 1) ≤ nI t) = False := eq_false (nI_ge (by omega) (by omega))
      have k2 : gK h1 (ρ x) = 8 := hf.k.trans (hQ.th (show x < 8 by omega)).2.1
      have c1 : (nI x).toNatClampNeg = x := nIc (by omega)
      have i1 : inb (nI x) 8 = True := nIb (by omega) (by omega)
      have c2 : (nI (x + 1)).toNatClampNeg = x + 1 := nIc (by omega)
      have i2 : inb (nI (x + 1)) 8 = True := nIb (by omega) (by omega)
      have sb : nI (x + 1) - 1 = nI x := nI_pred _
      have rx : gR h1 (a + 1) x = some (ρ x) := by rw [hz x (by omega), if_neg (by omega)]
      simp only [v23_41, v23_43, v23_44, v23_47, v23_48, v23_51, v23_53, v23_54, v23_57, v23_59, v23_60, v23_61, v23_62, v23_63, e8, reduceIte, y1, y2, y5, y6, vrf_s, sb, c1, i1, c2, i2, rx, k2, true_and, true_or, or_true, and_self, nDc]
      rw [v23_66]
      refine ih _ (by omega) (by omega) (hf.pR rfl) (fun i hi => ?_)
      by_cases e : i = x + 1
      · subst e
        rw [gR_at, if_pos ⟨by omega, by omega⟩]
        rfl
      · rw [gR_ne (fun z => e z.2), hz i hi]
        by_cases e2 : x + 1 < i ∧ i ≤ f
        · rw [if_pos e2, if_pos ⟨by omega, e2.2⟩]
        · rw [if_neg e2, if_neg (fun z => e2 ⟨by omega, z.2⟩)]
/-- moveThing up, and down -/
theorem c23_u (hQ : SQ a ρ β h) {f t : Nat} (hft : f ≤ t) (ht : t < 8) (kk : ∀ h2, Fr (PT1 a) h h2 → (∀ i, i < 8 → gR h2 (a + 1) i = some (ρ (sgu f t i))) → K none h2) : AM 23 [.ref a, .int (nI f), .int (nI t)] h K := by
  obtain ⟨s1, s2, s3, s4, s5, s6, s7, s8, s9, s10, -⟩ := id hQ
  have c1 : (nI f).toNatClampNeg = f := nIc (by omega)
  have i1 : inb (nI f) 8 = True := nIb (by omega) (by omega)
  simp only [e23, v23_0, v23_1, v23_4, v23_5, v23_6, v23_7, v23_8, s1, s2, s5, s6, vrf_s, c1, i1, (hQ.th (show f < 8 by omega)).1, true_and, true_or, or_true, and_self]
  refine c23_a hQ hft ht _ (fun h2 q2 hz => ?_) (t - f) f h (by omega) (Nat.le_refl _) Fr.rf (fun i hi => by rw [if_neg (by omega)]; exact (hQ.th hi).1)
  have y1 : gK h2 a = 3 := q2.k.trans s1
  have y2 : gR h2 a 0 = some (a + 1) := (q2.r (fun z => by unfold PT1 at z; omega)).trans s2
  have y5 : gK h2 (a + 1) = 12 := q2.k.trans s5
  have y6 : gN h2 (a + 1) = 8 := q2.n.trans s6
  have k2 : gK h2 (ρ f) = 8 := q2.k.trans (hQ.th (show f < 8 by omega)).2.1
  have e8 : (nI f ≤ nI t) = True := eq_true (nI_le hft (by omega))
  have c2 : (nI t).toNatClampNeg = t := nIc (by omega)
  have i2 : inb (nI t) 8 = True := nIb (by omega) (by omega)
  simp only [v23_38, v23_39, v23_41, v23_43, v23_44, v23_69, v23_70, v23_73, v23_74, v23_75, v23_76, e8, reduceIte, y1, y2, y5, y6, vrf_s, c2, i2, k2, true_and, true_or, or_true, and_self]
  refine kk _ (q2.pR rfl) (fun i hi => ?_)
  unfold sgu
  by_cases e : i = t
  · subst e
    rw [gR_at, if_neg (by omega), if_neg (by omega), if_pos rfl]
  · rw [gR_ne (fun z => e z.2), hz i hi]
    by_cases e1 : i < f
    · rw [if_neg (by omega), if_pos e1]
    · rw [if_neg e1]
      by_cases e2 : i < t
      · rw [if_pos ⟨by omega, e2⟩, if_pos e2]
      · rw [if_neg (by omega), if_neg e2, if_neg e]
theorem c23_d (hQ : SQ a ρ β h) {f t : Nat} (htf : t ≤ f) (hf8 : f < 8) (kk : ∀ h2, Fr (PT1 a) h h2 → (∀ i, i < 8 → gR h2 (a + 1) i = some (ρ (sgm f t i))) → K none h2) : AM 23 [.ref a, .int (nI f), .int (nI t)] h K := by
  obtain ⟨s1, s2, s3, s4, s5, s6, s7, s8, s9, s10, -⟩ := id hQ
  have c1 : (nI f).toNatClampNeg = f := nIc (by omega)
  have i1 : inb (nI f) 8 = True := nIb (by omega) (by omega)
  have e8 : (nI t ≤ nI f) = True := eq_true (nI_le htf (by omega))
  simp only [e23, v23_0, v23_1, v23_4, v23_5, v23_6, v23_7, v23_8, v23_10, v23_12, v23_13, v23_38, v23_39, e8, reduceIte, s1, s2, s5, s6, vrf_s, c1, i1, (hQ.th (show f < 8 by omega)).1, true_and, true_or, or_true, and_self]
  exact c23_b hQ htf hf8 kk f h htf (Nat.le_refl _) Fr.rf (fun i hi => by rw [if_neg (by omega)]; exact (hQ.th hi).1)
def PT2 (a : Nat) (x j : Nat) : Prop := x = a + 1 ∨ (x = a ∧ j = 1)
/-- the numbers after rows of things have changed places -/
theorem SV.permT {s' : SG} (hQ : SQ a ρ β h) (hV : SV a ρ β s h) (hO : SOk s) {σ : Nat → Nat} (w : Fr (PT2 a) h h1) (e1 : gI h1 a 1 = nI (sN s')) (hM : sM s' = sM s) (hB : sB s' = sB s) (hA : sA s' = sA s) (hs : ∀ t, t < sN s' → σ t < 8 ∧ ∀ k, k < 7 → gI h (ρ (σ t)) k = nI (sT s' t k)) : SV a (fun i => ρ (σ i)) β s' h1 := by
  obtain ⟨p1, p2, p3, p4, p5⟩ := hV
  have hm := hO.2.1
  refine ⟨e1, by rw [hM]; exact (w.i (fun z => by unfold PT2 at z; omega)).trans p2, fun t ht k hk => ?_, fun b hb k hk => ?_, fun k hk => by rw [hA]; exact (w.i (fun z => by unfold PT2 at z; omega)).trans (p5 k hk)⟩
  · obtain ⟨x1, x2⟩ := hs t ht
    obtain ⟨-, -, -, x4, x5⟩ := hQ.th x1
    show gI h1 (ρ (σ t)) k = _
    exact (w.i (fun z => by unfold PT2 at z; omega)).trans (x2 k hk)
  · rw [hM] at hb
    rw [hB]
    obtain ⟨-, -, -, x4, x5⟩ := hQ.by (show b < 24 by omega)
    exact (w.i (fun z => by unfold PT2 at z; omega)).trans (p4 b hb k hk)
theorem c24 (hQ : SQ a ρ β h) (hV : SV a ρ β s h) (hO : SOk s) {t : Nat} (ht : t < sN s) (kk : ∀ h2, Fr (PT2 a) h h2 → SQ a (fun i => ρ (sgu t (sN s - 1) i)) β h2 → SV a (fun i => ρ (sgu t (sN s - 1) i)) β (rmS s t) h2 → K none h2) : AM 24 [.ref a, .int (nI t)] h K := by
  have hn8 := hO.1
  obtain ⟨s1, s2, s3, s4, s5, s6, s7, s8, s9, s10, -⟩ := id hQ
  have sb : nI (sN s) - 1 = nI (sN s - 1) := nS1 (by omega)
  simp only [e24, v24_0, v24_1, v24_2, v24_3, v24_6, v24_7, v24_8, s1, hV.1, sb, true_and]
  refine c23_u hQ (show t ≤ sN s - 1 by omega) (by omega) (fun h2 q2 hr => ?_)
  have y1 : gK h2 a = 3 := q2.k.trans s1
  have e1 : gI h2 a 1 = nI (sN s) := (q2.i (fun z => by unfold PT1 at z; omega)).trans hV.1
  simp only [pu_n, v24_11, v24_12, v24_13, v24_16, v24_17, v24_18, v24_21, y1, e1, sb, true_and]
  have q3 : Fr (PT2 a) h (pI h2 a 1 (nI (sN s - 1))) := (q2.mo (fun x j z => Or.inl z)).pI (Or.inr ⟨rfl, rfl⟩)
  refine kk _ q3 (hQ.permT q3 (fun x j z => by unfold PT2 at z; omega) (sgu t (sN s - 1)) (fun i hi => sgu_lt (by omega) (by omega) hi) (fun i j _ _ h => sgu_inj (by omega) h) hr) (SV.permT hQ hV hO q3 (gI_at _ _ _ _) rfl rfl rfl (fun u hu => ?_))
  have hu' : u < sN s - 1 := hu
  refine ⟨sgu_lt (by omega) (by omega) (by omega), fun k hk => ?_⟩
  show _ = nI ((if u < t then sT s u else sT s (u + 1)) k)
  unfold sgu
  by_cases e : u < t
  · rw [if_pos e, if_pos e]; exact hV.t (by omega) hk
  · rw [if_neg e, if_neg e, if_pos hu']; exact hV.t (by omega) hk
theorem c23_0 (hQ : SQ a ρ β h) (hV : SV a ρ β s h) (hO : SOk s) {t : Nat} (ht : t < sN s) (kk : ∀ h2, Fr (PT2 a) h h2 → SQ a (fun i => ρ (sgm t 0 i)) β h2 → SV a (fun i => ρ (sgm t 0 i)) β (mvS s t) h2 → K none h2) : AM 23 [.ref a, .int (nI t), .int 0] h K := by
  have hn8 := hO.1
  have lt8 : ∀ i, i < 8 → sgm t 0 i < 8 := fun i hi => by unfold sgm; split <;> (try split) <;> (try split) <;> omega
  refine c23_d (t := 0) hQ (Nat.zero_le _) (by omega) (fun h2 q2 hr => ?_)
  have q3 : Fr (PT2 a) h h2 := q2.mo (fun x j z => Or.inl z)
  have e1 : gI h2 a 1 = nI (sN s) := (q2.i (fun z => by unfold PT1 at z; omega)).trans hV.1
  refine kk _ q3 (hQ.permT q3 (fun x j z => by unfold PT2 at z; omega) (sgm t 0) lt8 (fun i j _ _ h => sgm_inj (Nat.zero_le _) h) hr) (SV.permT hQ hV hO q3 e1 rfl rfl rfl (fun u hu => ?_))
  have hu' : u < sN s := hu
  refine ⟨lt8 u (by omega), fun k hk => ?_⟩
  show _ = nI ((if u = 0 then sT s t else if u ≤ t then sT s (u - 1) else sT s u) k)
  unfold sgm
  rw [if_neg (Nat.not_lt_zero u)]
  by_cases e : u = 0
  · rw [if_pos e, if_pos e]; exact hV.t ht hk
  · rw [if_neg e, if_neg e]
    by_cases e2 : u ≤ t
    · rw [if_pos e2, if_pos e2]; exact hV.t (by omega) hk
    · rw [if_neg e2, if_neg e2]; exact hV.t (by omega) hk
def swp (t v i : Nat) : Nat := if i = t then v else if i = v then t else i
theorem c25 (hQ : SQ a ρ β h) (hV : SV a ρ β s h) (hO : SOk s) {t v : Nat} (ht : t < sN s) (hv : v < sN s) (hne : t ≠ v) (kk : ∀ h2, Fr (PT2 a) h h2 → SQ a (fun i => ρ (swp t v i)) β h2 → SV a (fun i => ρ (swp t v i)) β (swS s t v) h2 → K none h2) : AM 25 [.ref a, .int (nI t), .int (nI v)] h K := by
  have hn8 := hO.1
  obtain ⟨s1, s2, s3, s4, s5, s6, s7, s8, s9, s10, -⟩ := id hQ
  obtain ⟨t1, t2, t3, t4, t5⟩ := hQ.th (show t < 8 by omega)
  obtain ⟨u1, u2, u3, u4, u5⟩ := hQ.th (show v < 8 by omega)
  have c1 : (nI t).toNatClampNeg = t := nIc (by omega)
  have i1 : inb (nI t) 8 = True := nIb (by omega) (by omega)
  have c2 : (nI v).toNatClampNeg = v := nIc (by omega)
  have i2 : inb (nI v) 8 = True := nIb (by omega) (by omega)
  have ne : ∀ (x : Option Nat), gR (pR h (a + 1) t x) a 0 = gR h a 0 := fun x => gR_ne (by omega)
  simp only [v25_0, v25_1, v25_4, v25_5, v25_6, v25_7, v25_8, v25_11, v25_12, v25_13, v25_16, v25_17, v25_18, v25_19, v25_20, v25_23, v25_24, v25_25, v25_26, e25, s1, s2, s5, s6, vrf_s, c1, i1, c2, i2, t1, t2, u1, u2, gI_pJ, gI_pR, gJ_pI, gJ_pR, gR_pI, gR_pJ, gK_pI, gK_pJ, gK_pR, gN_pI, gN_pJ, gN_pR, gX_pI, gX_pJ, gX_pR, gS_pI, gS_pJ, gS_pR, gK_cpI, gN_cpI, gK_cpJ, gN_cpJ, gR_cpI, gR_cpJ, gJ_cpI, gI_cpJ, ne, true_and, true_or, or_true, and_self]
  have q3 : Fr (PT2 a) h (pR (pR h (a + 1) t (some (ρ v))) (a + 1) v (some (ρ t))) := (Fr.rf.pR (Or.inl rfl)).pR (Or.inl rfl)
  have lt8 : ∀ i, i < 8 → swp t v i < 8 := fun i hi => by unfold swp; split <;> (try split) <;> omega
  refine kk _ q3 (hQ.permT q3 (fun x j z => by unfold PT2 at z; omega) (swp t v) lt8 (fun i j _ _ h => ?_) (fun i hi => ?_)) (SV.permT hQ hV hO q3 hV.1 rfl rfl rfl (fun u hu => ?_))
  · unfold swp at h
    split at h <;> split at h <;> (try split at h) <;> (try split at h) <;> omega
  · unfold swp
    by_cases e : i = v
    · subst e
      rw [gR_at, if_neg (fun z => hne z.symm), if_pos rfl]
    · rw [gR_ne (fun z => e z.2)]
      by_cases e2 : i = t
      · subst e2
        rw [gR_at, if_pos rfl]
      · rw [gR_ne (fun z => e2 z.2), if_neg e2, if_neg e]
        exact (hQ.th hi).1
  · have hu' : u < sN s := hu
    refine ⟨lt8 u (by omega), fun k hk => ?_⟩
    show _ = nI ((if u = t then sT s v else if u = v then sT s t else sT s u) k)
    unfold swp
    by_cases e : u = t
    · rw [if_pos e, if_pos e]; exact hV.t hv hk
    · rw [if_neg e, if_neg e]
      by_cases e2 : u = v
      · rw [if_pos e2, if_pos e2]; exact hV.t ht hk
      · rw [if_neg e2, if_neg e2]; exact hV.t hu' hk
/-- how many buyers come ahead of an hour -/
def rdN (f : Nat → Nat) (hr : Nat) : Nat → Nat
  | 0 => 0
  | p + 1 => if hr ≤ f p then rdN f hr p else p + 1
theorem rdN_le (f : Nat → Nat) (hr : Nat) : ∀ n : Nat, rdN f hr n ≤ n
  | 0 => Nat.le_refl _
  | p + 1 => by
    have ih := rdN_le f hr p
    unfold rdN
    split <;> omega
theorem c26_l (hQ : SQ a ρ β h) (hV : SV a ρ β s h) (hO : SOk s) {hr : Nat} (h6 : hr ≤ 6) (kk : ∀ h2, Fr (fun x j => x = a ∧ j = 3) h h2 → gI h2 a 3 = nI (rdN (fun b => sB s b 0) hr (sM s)) → K none h2) :
    ∀ (n : Nat) (h1 : Hp), n ≤ sM s → rdN (fun b => sB s b 0) hr n = rdN (fun b => sB s b 0) hr (sM s) → Fr (fun x j => x = a ∧ j = 3) h h1 → gI h1 a 3 = nI n → V 26 0 [.ref a, .int (nI hr)] [] h1 K := by
  have hm := hO.2.1
  obtain ⟨s1, s2, s3, s4, s5, s6, s7, s8, s9, s10, -⟩ := id hQ
  intro n
  induction n with
  | zero =>
    intro h1 hn he hf e3
    have y1 : gK h1 a = 3 := hf.k.trans s1
    have e0 : (nI 0 ≤ 0) = True := n00
    simp only [v26_0, v26_1, v26_4, v26_37, y1, e3, e0, reduceIte, true_and]
    exact kk h1 hf (by rw [e3, ← he]; rfl)
  | succ n ih =>
    intro h1 hn he hf e3
    have y1 : gK h1 a = 3 := hf.k.trans s1
    have y3 : gR h1 a 2 = some (a + 10) := (hf.r (fun z => by omega)).trans s3
    have y7 : gK h1 (a + 10) = 12 := hf.k.trans s7
    have y8 : gN h1 (a + 10) = 24 := hf.n.trans s8
    obtain ⟨u1, u2, u3, u4, u5⟩ := hQ.by (show n < 24 by omega)
    have r2 : gR h1 (a + 10) n = some (β n) := (hf.r (fun z => by omega)).trans u1
    have k2 : gK h1 (β n) = 8 := hf.k.trans u2
    have n2 : gN h1 (β n) = 3 := hf.n.trans u3
    have f0 : gI h1 (β n) 0 = nI (sB s n 0) := (hf.i (fun z => by omega)).trans (hV.b (by omega) (by omega))
    have g0 := (hO.2.2.2.1 n (by omega)).1
    have e0 : (nI (n + 1) ≤ 0) = False := by rw [n_le0 (by omega)]; exact eq_false (by omega)
    have c1 : (nI n).toNatClampNeg = n := nIc (by omega)
    have i1 : inb (nI n) 24 = True := nIb (by omega) (by omega)
    have sb : nI (n + 1) - 1 = nI n := nI_pred _
    have lt : (nI (sB s n 0) < nI hr) = (sB s n 0 < hr) := nltN (by omega) (by omega)
    have er : rdN (fun b => sB s b 0) hr (n + 1) = if hr ≤ sB s n 0 then rdN (fun b => sB s b 0) hr n else n + 1 := rfl
    by_cases g : sB s n 0 < hr
    · rw [if_neg (by omega)] at er
      simp only [v26_0, v26_1, v26_4, v26_7, v26_8, v26_11, v26_12, v26_15, v26_16, v26_17, v26_18, v26_19, v26_20, v26_21, v26_37, y1, y3, y7, y8, e3, e0, sb, c1, i1, r2, k2, n2, f0, vrf_s, ib7_0, ib7_1, ib7_2, ib7_3, ib7_4, ib7_5, ib7_6, ib3_0, ib3_1, ib3_2, ib4_0, ib4_1, ib4_2, ib4_3, tc0, tc1, tc2, tc3, tc4, tc5, tc6, lt, g, reduceIte, true_and, true_or, or_true, and_self]
      exact kk h1 hf (by rw [e3, ← he, er])
    · rw [if_pos (by omega)] at er
      simp only [v26_0, v26_1, v26_4, v26_7, v26_8, v26_11, v26_12, v26_15, v26_16, v26_17, v26_18, v26_19, v26_20, v26_21, v26_24, v26_25, v26_26, v26_29, v26_30, v26_31, y1, y3, y7, y8, e3, e0, sb, c1, i1, r2, k2, n2, f0, vrf_s, ib7_0, ib7_1, ib7_2, ib7_3, ib7_4, ib7_5, ib7_6, ib3_0, ib3_1, ib3_2, ib4_0, ib4_1, ib4_2, ib4_3, tc0, tc1, tc2, tc3, tc4, tc5, tc6, lt, g, reduceIte, true_and, true_or, or_true, and_self]
      rw [v26_34]
      exact ih _ (by omega) (er.symm.trans he) (hf.pI ⟨rfl, rfl⟩) (gI_at _ _ _ _)
theorem SV.ct {n : Nat} (hQ : SQ a ρ β h) (hV : SV a ρ β s h) (hO : SOk s) (hn : n ≤ sM s) (w : Fr (fun x j => x = a ∧ j = 3) h h1) (e3 : gI h1 a 3 = nI n) : SQ a ρ β h1 ∧ SV a ρ β (ctS s n) h1 := by
  have hm := hO.2.1
  have hn8 := hO.1
  obtain ⟨p1, p2, p3, p4, p5⟩ := hV
  have hQ2 := hQ.permB w (fun x j z => by omega) (fun i => i) (fun i hi => hi) (fun i j _ _ h => h) (fun i hi => (w.r (fun z => by omega)).trans (hQ.by hi).1)
  refine ⟨hQ2, (w.i (fun z => by omega)).trans p1, e3, fun t ht k hk => ?_, fun b hb k hk => ?_, fun k hk => (w.i (fun z => by omega)).trans (p5 k hk)⟩
  · have ht' : t < sN s := ht
    obtain ⟨-, -, -, x4, x5⟩ := hQ.th (show t < 8 by omega)
    exact (w.i (fun z => by omega)).trans (p3 t ht' k hk)
  · have hb' : b < n := hb
    obtain ⟨-, -, -, x4, x5⟩ := hQ.by (show b < 24 by omega)
    exact (w.i (fun z => by omega)).trans (p4 b (by omega) k hk)
theorem c26 (hQ : SQ a ρ β h) (hV : SV a ρ β s h) (hO : SOk s) {hr : Nat} (h6 : hr ≤ 6) (kk : ∀ h2, Fr (fun x j => x = a ∧ j = 3) h h2 → SQ a ρ β h2 → SV a ρ β (ctS s (rdN (fun b => sB s b 0) hr (sM s))) h2 → K none h2) : AM 26 [.ref a, .int (nI hr)] h K := by
  simp only [e26]
  refine c26_l hQ hV hO h6 (fun h2 q2 e3 => ?_) (sM s) h (Nat.le_refl _) rfl Fr.rf hV.2.1
  have := SV.ct hQ hV hO (rdN_le _ _ _) q2 e3
  exact kk h2 q2 this.1 this.2
theorem c27_l (hQ : SQ a ρ β h) (hV : SV a ρ β s h) (hO : SOk s) {e : Nat} (he : gK h e = 9) (hn : gN h e = 40) {mk : Nat → Nat} (hm : ∀ t, t < sN s → (gJ h e t).toInt32 = nI (mk t)) (hea : e < a ∨ a + 36 ≤ e) (kk : ∀ h2, Fr (fun x _ => a + 2 ≤ x ∧ x < a + 10) h h2 → FI (fun x _ => a + 2 ≤ x ∧ x < a + 10) h h2 → SV a ρ β (sgK s mk) h2 → K none h2) :
    ∀ (j x : Nat) (h1 : Hp), x + j = sN s → FI (fun x _ => a + 2 ≤ x ∧ x < a + 10) h h1 → (∀ t, t < sN s → ∀ k, k < 7 → gI h1 (ρ t) k = nI (if k = 5 ∧ t < x then mk t else sT s t k)) → V 27 2 [.ref a, .ref e, .int (nI x)] [] h1 K := by
  have hn8 := hO.1
  have hm24 := hO.2.1
  obtain ⟨s1, s2, s3, s4, s5, s6, s7, s8, s9, s10, -⟩ := id hQ
  obtain ⟨p1, p2, p3, p4, p5⟩ := id hV
  intro j
  induction j with
  | zero =>
    intro x h1 hx hf hz
    have ex : x = sN s := by omega
    subst ex
    have y1 : gK h1 a = 3 := hf.1.k.trans s1
    have e1 : gI h1 a 1 = nI (sN s) := (hf.i (fun z => by omega)).trans p1
    have e8 : (nI (sN s) ≤ nI (sN s)) = True := eq_true (nI_le (Nat.le_refl _) (by omega))
    simp only [v27_2, v27_3, v27_4, v27_7, v27_34, y1, e1, e8, reduceIte, true_and]
    refine kk h1 hf.1 hf ⟨e1, (hf.i (fun z => by omega)).trans p2, fun t ht k hk => hz t ht k hk, fun b hb k hk => ?_, fun k hk => (hf.i (fun z => by omega)).trans (p5 k hk)⟩
    have hb' : b < sM s := hb
    obtain ⟨-, -, -, x4, x5⟩ := hQ.by (show b < 24 by omega)
    exact (hf.i (fun z => by omega)).trans (p4 b hb' k hk)
  | succ j ih =>
    intro x h1 hx hf hz
    have hQ1 := hQ.fi hf
    obtain ⟨y1, y2, y3, y4, y5, y6, y7, y8, y9, y10, -⟩ := id hQ1
    obtain ⟨t1, t2, t3, t4, t5⟩ := hQ1.th (show x < 8 by omega)
    have e1 : gI h1 a 1 = nI (sN s) := (hf.i (fun z => by omega)).trans p1
    have k9 : gK h1 e = 9 := hf.1.k.trans he
    have n9 : gN h1 e = 40 := hf.1.n.trans hn
    have lt : (nI (sN s) ≤ nI x) = False := eq_false (nI_ge (by omega) (by omega))
    have l40 : (Int32.ofNat 40 ≤ nI x) = False := eq_false (nI_ge (b := 40) (by omega) (by decide))
    have c1 : (nI x).toNatClampNeg = x := nIc (by omega)
    have i1 : inb (nI x) 8 = True := nIb (by omega) (by omega)
    have i2 : inb (nI x) 40 = True := nIb (by omega) (by omega)
    have ej : (gJ h1 e x).toInt32 = nI (mk x) := by rw [hf.1.j (fun z => by omega)]; exact hm x (by omega)
    have k89 : ((8 : Nat) ≤ 9) = True := eq_true (by decide)
    have k89' : ((9 : Nat) ≤ 13) = True := eq_true (by decide)
    simp only [v27_2, v27_3, v27_4, v27_7, v27_10, v27_11, v27_12, v27_13, v27_16, v27_17, v27_20, v27_21, v27_22, v27_23, v27_24, v27_25, v27_26, v27_27, v27_28, y1, y2, y5, y6, e1, lt, k9, k89, k89', n9, l40, c1, i1, i2, t1, t2, t3, ej, vrf_s, ib7_0, ib7_1, ib7_2, ib7_3, ib7_4, ib7_5, ib7_6, ib3_0, ib3_1, ib3_2, ib4_0, ib4_1, ib4_2, ib4_3, tc0, tc1, tc2, tc3, tc4, tc5, tc6, reduceIte, true_and, true_or, or_true, and_self, nI_1]
    rw [v27_31]
    refine ih (x + 1) _ (by omega) (hf.pI ⟨by omega, by omega⟩) (fun t ht k hk => ?_)
    by_cases g : t = x
    · subst g
      by_cases g2 : k = 5
      · subst g2
        rw [gI_at, if_pos ⟨rfl, by omega⟩]
      · rw [gI_ne (fun z => g2 z.2), hz t ht k hk, if_neg (fun z => g2 z.1), if_neg (fun z => g2 z.1)]
    · rw [gI_ne (fun z => g (hQ.2.2.2.2.2.2.2.2.2.2.2.2.1 t x (by omega) (by omega) z.1)), hz t ht k hk]
      by_cases g2 : k = 5 ∧ t < x
      · rw [if_pos g2, if_pos ⟨g2.1, by omega⟩]
      · rw [if_neg g2, if_neg (fun z => g2 ⟨z.1, by omega⟩)]
theorem c27 (hQ : SQ a ρ β h) (hV : SV a ρ β s h) (hO : SOk s) {e : Nat} (he : gK h e = 9) (hn : gN h e = 40) {mk : Nat → Nat} (hm : ∀ t, t < sN s → (gJ h e t).toInt32 = nI (mk t)) (hea : e < a ∨ a + 36 ≤ e) (kk : ∀ h2, Fr (fun x _ => a + 2 ≤ x ∧ x < a + 10) h h2 → FI (fun x _ => a + 2 ≤ x ∧ x < a + 10) h h2 → SV a ρ β (sgK s mk) h2 → K none h2) : AM 27 [.ref a, .ref e] h K := by
  simp only [e27, v27_0, v27_1]
  exact c27_l hQ hV hO he hn hm hea kk (sN s) 0 h (Nat.zero_add _) FI.rf (fun t ht k hk => by rw [if_neg (by omega)]; exact hV.t ht hk)
/-- a draw -/
def sdI (x : Int32) : Int32 := x * 1103515245 + 12345
def dwN (x : Int32) (n : Nat) : Nat := (x.toUInt32.toNat / 65536) % n
theorem dw_I (x : Int32) {n : Nat} (h0 : 0 < n) (hn : n ≤ 1000) : (x.toUInt32 >>> (Int32.toUInt32 16 &&& Int32.toUInt32 31)).toInt32 - (x.toUInt32 >>> (Int32.toUInt32 16 &&& Int32.toUInt32 31)).toInt32 / nI n * nI n = nI (dwN x n) := by
  have e0 : (Int32.toUInt32 16 &&& Int32.toUInt32 31) = 16 := by decide
  have e1 : (x.toUInt32 >>> 16).toNat = x.toUInt32.toNat / 65536 := by
    rw [UInt32.toNat_shiftRight, Nat.shiftRight_eq_div_pow]
    rfl
  have hx := x.toUInt32.toNat_lt
  have e2 : (x.toUInt32 >>> 16).toInt32 = nI (x.toUInt32.toNat / 65536) := by
    rw [← e1]
    apply Int32.toBitVec_inj.1
    show (x.toUInt32 >>> 16).toBitVec = BitVec.ofNat 32 (x.toUInt32 >>> 16).toNat
    apply BitVec.eq_of_toNat_eq
    rw [BitVec.toNat_ofNat]
    exact (Nat.mod_eq_of_lt (UInt32.toNat_lt _)).symm
  rw [e0, e2]
  have hj : x.toUInt32.toNat / 65536 < 65536 := by omega
  unfold dwN
  generalize x.toUInt32.toNat / 65536 = j at hj
  rw [nI_divN (by omega) (by omega), nM, nI_subN (Nat.div_mul_le_self j n)]
  congr 1
  have := Nat.div_add_mod j n
  rw [Nat.mul_comm] at this
  omega
theorem dwN_lt (x : Int32) {n : Nat} (h0 : 0 < n) : dwN x n < n := Nat.mod_lt _ h0
theorem c30 (ka : gK h a = 3) {n : Nat} (h0 : 0 < n) (hn : n ≤ 1000) : AM 30 [.ref a, .int (nI n)] h K = K (some (.int (nI (dwN (sdI (gI h a 7)) n)))) (pI h a 7 (sdI (gI h a 7))) := by
  have e1 : (1 ≤ nI n) = True := eq_true (nI_le (a := 1) (by omega) (by omega))
  have ez : (nI n = 0) = False := eq_false (nI_ne0 h0 (by omega))
  have := dw_I (sdI (gI h a 7)) h0 hn
  unfold sdI at this
  unfold sdI
  simp only [v30_0, v30_1, v30_2, v30_5, v30_7, v30_8, v30_11, v30_12, v30_15, v30_16, v30_17, v30_20, v30_21, v30_24, v30_25, v30_28, v30_30, v30_31, v30_32, v30_33, e30, ka, gI_pJ, gI_pR, gJ_pI, gJ_pR, gR_pI, gR_pJ, gK_pI, gK_pJ, gK_pR, gN_pI, gN_pJ, gN_pR, gX_pI, gX_pJ, gX_pR, gS_pI, gS_pJ, gS_pR, gK_cpI, gN_cpI, gK_cpJ, gN_cpJ, gR_cpI, gR_cpJ, gJ_cpI, gI_cpJ, gI_at, e1, ez, reduceIte, true_and, ne_eq, not_false_eq_true, this]
end
