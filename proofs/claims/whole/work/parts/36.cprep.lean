/-! THE CLASS'S MORNING: prepare -/
/-- the morning object's shape, its stall aside -/
def OS0 (o : Nat) (h : Hp) : Prop := gK h o = 1 ∧ gR h o 0 = some (o + 1) ∧ gR h o 1 = some (o + 2) ∧ gR h o 2 = some (o + 3) ∧ gR h o 3 = some (o + 4) ∧ gR h o 9 = some (o + 5) ∧ gR h o 10 = some (o + 6) ∧
  gK h (o + 1) = 8 ∧ gK h (o + 2) = 8 ∧ gK h (o + 3) = 8 ∧ gK h (o + 4) = 8 ∧ gK h (o + 5) = 8 ∧ gK h (o + 6) = 8 ∧ gN h (o + 1) = 8 ∧ gN h (o + 2) = 24 ∧ gN h (o + 3) = 24 ∧ gN h (o + 4) = 7 ∧ gN h (o + 5) = 288 ∧ gN h (o + 6) = 8
theorem OS0.sh {o a : Nat} {h : Hp} (hS : OS0 o h) : OSh o a (pR h o 8 (some a)) := by
  obtain ⟨w1, w2, w3, w4, w5, w6, w7, w9, w10, w11, w12, w13, w14, w15, w16, w17, w18, w19, w20⟩ := hS
  have n : ∀ j, j ≠ 8 → gR (pR h o 8 (some a)) o j = gR h o j := fun j hj => gR_ne (by omega)
  exact ⟨w1, (n 0 (by decide)).trans w2, (n 1 (by decide)).trans w3, (n 2 (by decide)).trans w4, (n 3 (by decide)).trans w5, (n 9 (by decide)).trans w6, (n 10 (by decide)).trans w7, gR_at _ _ _ _, w9, w10, w11, w12, w13, w14, w15, w16, w17, w18, w19, w20⟩
theorem OSh.s0 {o a : Nat} {h : Hp} (hS : OSh o a h) : OS0 o h := by
  obtain ⟨w1, w2, w3, w4, w5, w6, w7, w8, w9, w10, w11, w12, w13, w14, w15, w16, w17, w18, w19, w20⟩ := hS
  exact ⟨w1, w2, w3, w4, w5, w6, w7, w9, w10, w11, w12, w13, w14, w15, w16, w17, w18, w19, w20⟩
/-- what prepare writes: behind the reference to the stall, and with it -/
def PV (o : Nat) (x j : Nat) : Prop := x = o + 5 ∨ (x = o ∧ (j = 11 ∨ j = 15))
def PW (o : Nat) (x j : Nat) : Prop := x = o + 5 ∨ (x = o ∧ (j = 8 ∨ j = 11 ∨ j = 15))
theorem PV.w {o : Nat} : ∀ x j : Nat, PV o x j → PW o x j := fun x j z => by unfold PV at z; unfold PW; omega
section
variable {o a c : Nat} {ρ β : Nat → Nat} {s : SG} {h h1 : Hp} {K : Option Value → Hp → Prop}
theorem OSh.pv (hS : OSh o a h) (q : Fr (PV o) h h1) : OSh o a h1 := by
  obtain ⟨w1, w2, w3, w4, w5, w6, w7, w8, w9, w10, w11, w12, w13, w14, w15, w16, w17, w18, w19, w20⟩ := hS
  have nF : ∀ j, ¬ (j = 11 ∨ j = 15) → ¬ PV o o j := fun j h1 z => by unfold PV at z; omega
  exact ⟨q.k.trans w1, (q.r (nF _ (by decide))).trans w2, (q.r (nF _ (by decide))).trans w3, (q.r (nF _ (by decide))).trans w4, (q.r (nF _ (by decide))).trans w5, (q.r (nF _ (by decide))).trans w6, (q.r (nF _ (by decide))).trans w7, (q.r (nF _ (by decide))).trans w8, q.k.trans w9, q.k.trans w10, q.k.trans w11, q.k.trans w12, q.k.trans w13, q.k.trans w14, q.n.trans w15, q.n.trans w16, q.n.trans w17, q.n.trans w18, q.n.trans w19, q.n.trans w20⟩
theorem SQ.pw (hQ : SQ a ρ β h) (ho : a + 36 ≤ o) (q : Fr (PW o) h h1) : SQ a ρ β h1 := hQ.fr q (fun u j z => by unfold PW at z; omega)
theorem SV.pw (hP : SV a ρ β s h) (hQ : SQ a ρ β h) (hO : SOk s) (ho : a + 36 ≤ o) (q : Fr (PW o) h h1) : SV a ρ β s h1 := SV.fr hQ hP hO q (fun u j z => by unfold PW at z; omega)
/-- the table filled so far -/
def PT (o : Nat) (s : SG) (t so d : Nat) (h : Hp) : Prop := ∀ so' t' d', so' < 4 → t' < sN s → d' ≤ cntN (dwB s) (sN s) → (t' < t ∨ (t' = t ∧ (so' < so ∨ (so' = so ∧ d' < d)))) → gI h (o + 5) ((so' * 8 + t') * 9 + d') = nI (payN so' (sT s t' 0) (sT s t' 1) (sT s t' 4) d')
theorem c1_d (hC : CN c h) (hco : c ≤ o) (ho : a + 36 ≤ o) (hS : OSh o a h) (hQ : SQ a ρ β h) (hP : SV a ρ β s h) (hO : SOk s) {t so : Nat} (ht : t < sN s) (hso : so < 4)
    (kk : ∀ (h2 : Hp) (v6 : Value), Fr (PV o) h h2 → PT o s t so (cntN (dwB s) (sN s) + 1) h2 → gI h2 o 11 = gI h o 11 → gI h2 o 15 = gI h o 15 → V 1 137 [.ref o, .ref a, .int (nI (cntN (dwB s) (sN s))), .int (nI t), .ref (ρ t), .int (nI so), v6] [] h2 K) :
    ∀ (j d : Nat) (h1 : Hp), d + j = cntN (dwB s) (sN s) + 1 → Fr (PV o) h h1 → PT o s t so d h1 → gI h1 o 11 = gI h o 11 → gI h1 o 15 = gI h o 15 → V 1 93 [.ref o, .ref a, .int (nI (cntN (dwB s) (sN s))), .int (nI t), .ref (ρ t), .int (nI so), .int (nI d)] [] h1 K := by
  have hn8 := hO.1
  have hcn := cntN_le (dwB s) (sN s)
  intro j
  induction j with
  | zero =>
    intro d h1 hi hf hT e11 e15
    have e : d = cntN (dwB s) (sN s) + 1 := by omega
    subst e
    have e8 : (nI (cntN (dwB s) (sN s)) < nI (cntN (dwB s) (sN s) + 1)) = True := eq_true (nI_lt (by omega) (by omega))
    simp only [v1_93, v1_95, v1_96, e8, reduceIte]
    exact kk h1 _ hf hT e11 e15
  | succ j ih =>
    intro d h1 hi hf hT e11 e15
    have hS1 := hS.pv hf
    have hQ1 := hQ.pw ho (hf.mo PV.w)
    have hP1 := hP.pw hQ hO ho (hf.mo PV.w)
    have hC1 := hC.fr hf (fun x j z => by unfold PV at z; omega)
    obtain ⟨w1, w2, w3, w4, w5, w6, w7, w8, w9, w10, w11, w12, w13, w14, w15, w16, w17, w18, w19, w20⟩ := id hS1
    obtain ⟨t1, t2, t3, t4, t5⟩ := hQ1.th (show t < 8 by omega)
    have e0 := hP1.t ht (k := 0) (by omega)
    have e1 := hP1.t ht (k := 1) (by omega)
    have e4 := hP1.t ht (k := 4) (by omega)
    obtain ⟨b0, -, b1, -, -, -, b4, -, -⟩ := hO.2.2.1 t ht
    have lt : (nI (cntN (dwB s) (sN s)) < nI d) = False := eq_false (nI_nlt (by omega) (by omega))
    have ix : (nI so * 8 + nI t) * 9 + nI d = nI ((so * 8 + t) * 9 + d) := by rw [show nI so * 8 = nI (so * 8) from nI_mul _ 8, nI_add, nM9, nI_add]
    have cx : (nI ((so * 8 + t) * 9 + d)).toNatClampNeg = (so * 8 + t) * 9 + d := nIc (by omega)
    have i2 : inb (nI ((so * 8 + t) * 9 + d)) 288 = True := nIb (by omega) (by omega)
    have pf := fun (K : Option Value → Hp → Prop) => c132 (K := K) hC1 hso (show sT s t 0 < 6 by omega) b1 b4 (show d ≤ 8 by omega)
    simp only [v1_93, v1_95, v1_96, v1_99, v1_100, v1_103, v1_105, v1_106, v1_108, v1_111, v1_113, v1_115, v1_116, v1_117, v1_119, v1_120, v1_121, v1_123, v1_124, v1_125, v1_127, v1_130, v1_131, lt, reduceIte, w1, w6, w13, w19, vrf_s, c2, pu_s, ix, cx, i2, t2, t3, ib7_0, ib7_1, ib7_2, ib7_3, ib7_4, ib7_5, ib7_6, ib3_0, ib3_1, ib3_2, ib4_0, ib4_1, ib4_2, ib4_3, tc0, tc1, tc2, tc3, tc4, tc5, tc6, e0, e1, e4, pf, true_and, true_or, and_self, nI_1]
    rw [v1_134]
    have ne : ∀ (x : Int32) (j : Nat), gI (pI h1 (o + 5) ((so * 8 + t) * 9 + d) x) o j = gI h1 o j := fun x j => gI_ne (by omega)
    refine ih (d + 1) _ (by omega) (hf.pI (Or.inl rfl)) (fun so' t' d' q1 q2 q3 q4 => ?_) ((ne _ _).trans e11) ((ne _ _).trans e15)
    by_cases e : (so' * 8 + t') * 9 + d' = (so * 8 + t) * 9 + d
    · have x1 : so' = so := by omega
      have x2 : t' = t := by omega
      have x3 : d' = d := by omega
      subst x1 x2 x3
      exact gI_at _ _ _ _
    · rw [gI_ne (fun z => e z.2)]
      exact hT so' t' d' q1 q2 q3 (by omega)
theorem c1_s (hC : CN c h) (hco : c ≤ o) (ho : a + 36 ≤ o) (hS : OSh o a h) (hQ : SQ a ρ β h) (hP : SV a ρ β s h) (hO : SOk s) {t : Nat} (ht : t < sN s)
    (kk : ∀ (h2 : Hp) (v5 v6 : Value), Fr (PV o) h h2 → PT o s (t + 1) 0 0 h2 → gI h2 o 11 = gI h o 11 → gI h2 o 15 = gI h o 15 → V 1 143 [.ref o, .ref a, .int (nI (cntN (dwB s) (sN s))), .int (nI t), .ref (ρ t), v5, v6] [] h2 K) :
    ∀ (j so : Nat) (h1 : Hp) (v6 : Value), so + j = 4 → Fr (PV o) h h1 → PT o s t so 0 h1 → gI h1 o 11 = gI h o 11 → gI h1 o 15 = gI h o 15 → V 1 84 [.ref o, .ref a, .int (nI (cntN (dwB s) (sN s))), .int (nI t), .ref (ρ t), .int (nI so), v6] [] h1 K := by
  intro j
  induction j with
  | zero =>
    intro so h1 v6 hi hf hT e11 e15
    have e : so = 4 := by omega
    subst e
    have e8 : ((4 : Int32) ≤ nI 4) = True := eq_true (by decide)
    simp only [v1_84, v1_86, v1_87, e8, reduceIte]
    exact kk h1 _ _ hf (fun so' t' d' q1 q2 q3 q4 => hT so' t' d' q1 q2 q3 (by omega)) e11 e15
  | succ j ih =>
    intro so h1 v6 hi hf hT e11 e15
    have e8 : ((4 : Int32) ≤ nI so) = False := eq_false (nI_ge (b := 4) (by omega) (by decide))
    simp only [v1_84, v1_86, v1_87, e8, reduceIte, v1_90, v1_91]
    refine c1_d (hC.fr hf (fun x j z => by unfold PV at z; omega)) hco ho (hS.pv hf) (hQ.pw ho (hf.mo PV.w)) (hP.pw hQ hO ho (hf.mo PV.w)) hO ht (show so < 4 by omega) (fun h2 v6 q2 hT2 x11 x15 => ?_) _ 0 h1 (Nat.zero_add _) Fr.rf hT rfl rfl
    simp only [v1_137, nI_1]
    rw [v1_140]
    exact ih (so + 1) h2 v6 (by omega) (hf.tr q2) (fun so' t' d' q1 q2 q3 q4 => hT2 so' t' d' q1 q2 q3 (by omega)) (x11.trans e11) (x15.trans e15)
theorem c1_t (hC : CN c h) (hco : c ≤ o) (ho : a + 36 ≤ o) (hS : OSh o a h) (hQ : SQ a ρ β h) (hP : SV a ρ β s h) (hO : SOk s)
    (kk : ∀ h2 : Hp, Fr (PV o) h h2 → PT o s (sN s) 0 0 h2 → gI h2 o 11 = gI h o 11 → gI h2 o 15 = gI h o 15 → K none h2) :
    ∀ (j t : Nat) (h1 : Hp) (v4 v5 v6 : Value), t + j = sN s → Fr (PV o) h h1 → PT o s t 0 0 h1 → gI h1 o 11 = gI h o 11 → gI h1 o 15 = gI h o 15 → V 1 65 [.ref o, .ref a, .int (nI (cntN (dwB s) (sN s))), .int (nI t), v4, v5, v6] [] h1 K := by
  have hn8 := hO.1
  intro j
  induction j with
  | zero =>
    intro t h1 v4 v5 v6 hi hf hT e11 e15
    have e : t = sN s := by omega
    subst e
    have s1 := (hQ.pw ho (hf.mo PV.w)).1
    have p1 := (hP.pw hQ hO ho (hf.mo PV.w)).1
    have e8 : (nI (sN s) ≤ nI (sN s)) = True := eq_true (nI_le (Nat.le_refl _) (by omega))
    simp only [v1_65, v1_66, v1_67, v1_70, v1_149, s1, p1, e8, reduceIte, true_and]
    exact kk h1 hf hT e11 e15
  | succ j ih =>
    intro t h1 v4 v5 v6 hi hf hT e11 e15
    have ht : t < sN s := by omega
    have hQ1 := hQ.pw ho (hf.mo PV.w)
    obtain ⟨s1, s2, s3, s4, s5, s6, s7, s8, s9, s10, -⟩ := id hQ1
    obtain ⟨t1, t2, t3, t4, t5⟩ := hQ1.th (show t < 8 by omega)
    have p1 := (hP.pw hQ hO ho (hf.mo PV.w)).1
    have lt : (nI (sN s) ≤ nI t) = False := eq_false (nI_ge ht (by omega))
    have c1 : (nI t).toNatClampNeg = t := nIc (by omega)
    have i1 : inb (nI t) 8 = True := nIb (by omega) (by omega)
    simp only [v1_65, v1_66, v1_67, v1_70, v1_73, v1_74, v1_77, v1_78, v1_79, v1_81, v1_82, s1, s2, s5, s6, vrf_s, t1, p1, lt, c1, i1, reduceIte, true_and, true_or, or_true, and_self]
    refine c1_s (hC.fr hf (fun x j z => by unfold PV at z; omega)) hco ho (hS.pv hf) hQ1 (hP.pw hQ hO ho (hf.mo PV.w)) hO ht (fun h2 v5 v6 q2 hT2 x11 x15 => ?_) 4 0 h1 _ rfl Fr.rf hT rfl rfl
    simp only [v1_143, nI_1]
    rw [v1_146]
    exact ih (t + 1) h2 _ _ _ (by omega) (hf.tr q2) hT2 (x11.trans e11) (x15.trans e15)
theorem c1_w (hC : CN c h) (hco : c ≤ o) (ho : a + 36 ≤ o) (hS : OSh o a h) (hQ : SQ a ρ β h) (hP : SV a ρ β s h) (hO : SOk s) (h15 : gI h o 15 = -1)
    (kk : ∀ h2 : Hp, Fr (PV o) h h2 → OT o s none h2 → gI h2 o 15 = -1 → K none h2) :
    ∀ (j t : Nat) (h1 : Hp) (v3 v4 v5 v6 : Value), t + j = sN s → Fr (PV o) h h1 → gI h1 o 11 = nI (msk (dwB s) t) → gI h1 o 15 = -1 → V 1 17 [.ref o, .ref a, .int (nI t), v3, v4, v5, v6] [] h1 K := by
  have hn8 := hO.1
  intro j
  induction j with
  | zero =>
    intro t h1 v3 v4 v5 v6 hi hf e11 e15
    have e : t = sN s := by omega
    subst e
    have w1 := (hS.pv hf).1
    have s1 := (hQ.pw ho (hf.mo PV.w)).1
    have p1 := (hP.pw hQ hO ho (hf.mo PV.w)).1
    have e8 : (nI (sN s) ≤ nI (sN s)) = True := eq_true (nI_le (Nat.le_refl _) (by omega))
    simp only [v1_17, v1_18, v1_19, v1_22, v1_55, v1_56, v1_59, v1_62, v1_63, v1_64, s1, p1, e8, w1, reduceIte, true_and, e11, c237, bcF_msk hn8, pu_s]
    refine c1_t (hC.fr hf (fun x j z => by unfold PV at z; omega)) hco ho (hS.pv hf) (hQ.pw ho (hf.mo PV.w)) (hP.pw hQ hO ho (hf.mo PV.w)) hO (fun h2 q2 hT2 x11 x15 => ?_) (sN s) 0 h1 _ _ _ (Nat.zero_add _) Fr.rf (fun so' t' d' q1 q2 q3 q4 => by omega) rfl rfl
    refine kk h2 (hf.tr q2) ⟨x11.trans e11, fun so t d q1 q2 q3 => hT2 so t d q1 q2 q3 (Or.inl q2)⟩ (x15.trans e15)
  | succ j ih =>
    intro t h1 v3 v4 v5 v6 hi hf e11 e15
    have ht : t < sN s := by omega
    have hQ1 := hQ.pw ho (hf.mo PV.w)
    have hP1 := hP.pw hQ hO ho (hf.mo PV.w)
    obtain ⟨s1, s2, s3, s4, s5, s6, s7, s8, s9, s10, -⟩ := id hQ1
    obtain ⟨t1, t2, t3, t4, t5⟩ := hQ1.th (show t < 8 by omega)
    have w1 := (hS.pv hf).1
    have p1 := hP1.1
    have e0 := hP1.t ht (k := 0) (by omega)
    have b0 := (hO.2.2.1 t ht).1
    have l2 : (nI (sT s t 0) = 2) = (sT s t 0 = 2) := (nLit (s := sT s t 0) (by omega)).2.2.1
    have lt : (nI (sN s) ≤ nI t) = False := eq_false (nI_ge ht (by omega))
    have c1 : (nI t).toNatClampNeg = t := nIc (by omega)
    have i1 : inb (nI t) 8 = True := nIb (by omega) (by omega)
    have sh := nShl t (by omega)
    by_cases e2 : sT s t 0 = 2
    · simp only [v1_17, v1_18, v1_19, v1_22, v1_25, v1_26, v1_29, v1_30, v1_31, v1_32, v1_33, v1_34, v1_37, v1_38, v1_39, v1_42, v1_43, v1_44, v1_45, v1_46, v1_49, s1, s2, s5, s6, vrf_s, t1, t2, t3, p1, lt, c1, i1, ib7_0, ib7_1, ib7_2, ib7_3, ib7_4, ib7_5, ib7_6, ib3_0, ib3_1, ib3_2, ib4_0, ib4_1, ib4_2, ib4_3, tc0, tc1, tc2, tc3, tc4, tc5, tc6, e0, e2, n22, w1, e11, sh, nOr, reduceIte, not_true_eq_false, true_and, true_or, or_true, and_self, nI_1]
      rw [v1_52]
      refine ih (t + 1) _ _ _ _ _ (by omega) (hf.pI (Or.inr ⟨rfl, by omega⟩)) ?_ (by rw [gI_ne (by omega)]; exact e15)
      rw [gI_at]
      show _ = nI (if dwB s t = true then msk (dwB s) t ||| 2 ^ t else msk (dwB s) t)
      rw [if_pos (show dwB s t = true from decide_eq_true e2)]
    · simp only [v1_17, v1_18, v1_19, v1_22, v1_25, v1_26, v1_29, v1_30, v1_31, v1_32, v1_33, v1_34, v1_49, s1, s2, s5, s6, vrf_s, t1, t2, t3, p1, lt, c1, i1, ib7_0, ib7_1, ib7_2, ib7_3, ib7_4, ib7_5, ib7_6, ib3_0, ib3_1, ib3_2, ib4_0, ib4_1, ib4_2, ib4_3, tc0, tc1, tc2, tc3, tc4, tc5, tc6, e0, l2, e2, reduceIte, not_false_eq_true, true_and, true_or, or_true, and_self, nI_1]
      rw [v1_52]
      refine ih (t + 1) h1 _ _ _ _ (by omega) hf ?_ e15
      rw [e11]
      show _ = nI (if dwB s t = true then msk (dwB s) t ||| 2 ^ t else msk (dwB s) t)
      rw [if_neg (show ¬ dwB s t = true from fun z => e2 (of_decide_eq_true z))]
/-- prepare -/
theorem c1 (hC : CN c h) (hco : c ≤ o) (ho : a + 36 ≤ o) (hS : OS0 o h) (hQ : SQ a ρ β h) (hP : SV a ρ β s h) (hO : SOk s)
    (kk : ∀ h2 : Hp, Fr (PW o) h h2 → OSh o a h2 → OT o s none h2 → gI h2 o 15 = -1 → K none h2) : AM 1 [.ref o, .ref a] h K := by
  have hS1 : OSh o a (pR h o 8 (some a)) := hS.sh
  have w1 := hS.1
  have q0 : Fr (PW o) h (pR h o 8 (some a)) := Fr.rf.pR (Or.inr ⟨rfl, by omega⟩)
  simp only [e1, v1_0, v1_1, v1_2, v1_5, v1_6, v1_7, v1_10, v1_11, v1_12, v1_15, v1_16, gI_pJ, gI_pR, gJ_pI, gJ_pR, gR_pI, gR_pJ, gK_pI, gK_pJ, gK_pR, gN_pI, gN_pJ, gN_pR, gX_pI, gX_pJ, gX_pR, gS_pI, gS_pJ, gS_pR, gK_cpI, gN_cpI, gK_cpJ, gN_cpJ, gR_cpI, gR_cpJ, gJ_cpI, gI_cpJ, w1, true_and]
  have q1 : Fr (PV o) (pR h o 8 (some a)) (pI (pI (pR h o 8 (some a)) o 15 (-1)) o 11 0) := (Fr.rf.pI (Or.inr ⟨rfl, by omega⟩)).pI (Or.inr ⟨rfl, by omega⟩)
  have q2 := q0.tr (q1.mo PV.w)
  refine c1_w (hC.fr q2 (fun x j z => by unfold PW at z; omega)) hco ho (hS1.pv q1) (hQ.pw ho q2) (hP.pw hQ hO ho q2) hO (by rw [gI_ne (by omega), gI_at]) (fun h2 q3 hT x15 => ?_) (sN s) 0 _ _ _ _ _ (Nat.zero_add _) Fr.rf (gI_at _ _ _ _) (by rw [gI_ne (by omega), gI_at])
  exact kk h2 (q2.tr (q3.mo PV.w)) ((hS1.pv q1).pv q3) hT x15
end
