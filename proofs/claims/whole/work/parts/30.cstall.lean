/-! masks; THE CLASS'S STALL at a; what a thing costs, what is on -/
theorem nOr (a b : Nat) : nI a ||| nI b = nI (a ||| b) := by
  apply Int32.toBitVec_inj.1
  show BitVec.ofNat 32 a ||| BitVec.ofNat 32 b = BitVec.ofNat 32 (a ||| b)
  apply BitVec.eq_of_getLsbD_eq
  intro i hi
  simp [hi]
theorem nAnd (a b : Nat) : nI a &&& nI b = nI (a &&& b) := by
  apply Int32.toBitVec_inj.1
  show BitVec.ofNat 32 a &&& BitVec.ofNat 32 b = BitVec.ofNat 32 (a &&& b)
  apply BitVec.eq_of_getLsbD_eq
  intro i hi
  simp [hi]
theorem nShl : ∀ i, i < 31 → (1 : Int32) <<< (nI i &&& 31) = nI (2 ^ i) := by decide +kernel
theorem s31 : ∀ n, n < 32 → ((nI n &&& 31).toBitVec.smod 32).toNat = n := by decide +kernel
theorem bitI_N (X i : Nat) (hi : i < 32) : bitI (nI X) (nI i) = X.testBit i := by
  have e : (nI X >>> (nI i &&& 31)) &&& 1 = if X.testBit i = true then 1 else 0 := by
    apply Int32.toBitVec_inj.1
    apply BitVec.eq_of_getLsbD_eq
    intro j hj
    rw [Int32.toBitVec_and, BitVec.getLsbD_and, Int32.toBitVec_shiftRight]
    show (((BitVec.ofNat 32 X).sshiftRight ((nI i &&& 31).toBitVec.smod 32).toNat).getLsbD j && (1#32).getLsbD j) = _
    rw [s31 i hi, BitVec.getLsbD_sshiftRight]
    by_cases h0 : j = 0
    · subst h0
      have g : (BitVec.ofNat 32 X).getLsbD i = X.testBit i := by rw [BitVec.getLsbD_ofNat, decide_eq_true hi, Bool.true_and]
      rw [Nat.add_zero, if_pos hi, g]
      cases X.testBit i <;> decide
    · have h1 : (1#32).getLsbD j = false := by simp [h0]
      rw [h1, Bool.and_false]
      cases ht : X.testBit i with
      | true => exact h1.symm
      | false => simp
  unfold bitI
  rw [e]
  cases X.testBit i <;> decide
/-- the mask of the first n -/
def msk (f : Nat → Bool) : Nat → Nat
  | 0 => 0
  | n + 1 => if f n = true then msk f n ||| 2 ^ n else msk f n
theorem msk_t (f : Nat → Bool) : ∀ n i : Nat, (msk f n).testBit i = (decide (i < n) && f i)
  | 0, i => by simp [msk]
  | n + 1, i => by
    have ih := msk_t f n i
    unfold msk
    by_cases hf : f n = true
    · rw [if_pos hf, Nat.testBit_or, ih, Nat.testBit_two_pow]
      by_cases e : n = i
      · subst e
        simp [hf]
      · have : decide (i < n + 1) = decide (i < n) := by
          apply decide_eq_decide.mpr
          omega
        simp [e, this]
    · rw [if_neg hf, ih]
      by_cases e : n = i
      · subst e
        simp [hf]
      · have : decide (i < n + 1) = decide (i < n) := by
          apply decide_eq_decide.mpr
          omega
        rw [this]
theorem msk_lt (f : Nat → Bool) (n : Nat) : msk f n < 2 ^ n := by
  apply Nat.lt_pow_two_of_testBit
  intro i hi
  rw [msk_t, decide_eq_false (by omega), Bool.false_and]
/-- shape of a stall at a: rows of things ρ, of buyers β -/
def SQ (a : Nat) (ρ β : Nat → Nat) (h : Hp) : Prop := gK h a = 3 ∧ gR h a 0 = some (a + 1) ∧ gR h a 2 = some (a + 10) ∧ gR h a 4 = some (a + 35) ∧ gK h (a + 1) = 12 ∧ gN h (a + 1) = 8 ∧ gK h (a + 10) = 12 ∧ gN h (a + 10) = 24 ∧ gK h (a + 35) = 8 ∧ gN h (a + 35) = 4 ∧
  (∀ i, i < 8 → gR h (a + 1) i = some (ρ i) ∧ gK h (ρ i) = 8 ∧ gN h (ρ i) = 7 ∧ a + 2 ≤ ρ i ∧ ρ i < a + 10) ∧ (∀ i, i < 24 → gR h (a + 10) i = some (β i) ∧ gK h (β i) = 8 ∧ gN h (β i) = 3 ∧ a + 11 ≤ β i ∧ β i < a + 35) ∧
  (∀ i j, i < 8 → j < 8 → ρ i = ρ j → i = j) ∧ (∀ i j, i < 24 → j < 24 → β i = β j → i = j)
/-- a stall's numbers -/
def SV (a : Nat) (ρ β : Nat → Nat) (s : SG) (h : Hp) : Prop := gI h a 1 = nI (sN s) ∧ gI h a 3 = nI (sM s) ∧ (∀ t, t < sN s → ∀ k, k < 7 → gI h (ρ t) k = nI (sT s t k)) ∧ (∀ b, b < sM s → ∀ k, k < 3 → gI h (β b) k = nI (sB s b k)) ∧ ∀ k, k < 4 → gI h (a + 35) k = nI (sA s k)
section
variable {a : Nat} {ρ β : Nat → Nat} {s : SG} {h h1 : Hp} {K : Option Value → Hp → Prop}
theorem SV.t (hP : SV a ρ β s h) {t : Nat} (ht : t < sN s) {k : Nat} (hk : k < 7) : gI h (ρ t) k = nI (sT s t k) := hP.2.2.1 t ht k hk
theorem SV.b (hP : SV a ρ β s h) {b : Nat} (hb : b < sM s) {k : Nat} (hk : k < 3) : gI h (β b) k = nI (sB s b k) := hP.2.2.2.1 b hb k hk
theorem SV.aa (hP : SV a ρ β s h) {k : Nat} (hk : k < 4) : gI h (a + 35) k = nI (sA s k) := hP.2.2.2.2 k hk
theorem SQ.th (hQ : SQ a ρ β h) {i : Nat} (hi : i < 8) : gR h (a + 1) i = some (ρ i) ∧ gK h (ρ i) = 8 ∧ gN h (ρ i) = 7 ∧ a + 2 ≤ ρ i ∧ ρ i < a + 10 := hQ.2.2.2.2.2.2.2.2.2.2.1 i hi
theorem SQ.by (hQ : SQ a ρ β h) {i : Nat} (hi : i < 24) : gR h (a + 10) i = some (β i) ∧ gK h (β i) = 8 ∧ gN h (β i) = 3 ∧ a + 11 ≤ β i ∧ β i < a + 35 := hQ.2.2.2.2.2.2.2.2.2.2.2.1 i hi
theorem SQ.fr {F : Nat → Nat → Prop} (hQ : SQ a ρ β h) (q : Fr F h h1) (hF : ∀ u j, F u j → u < a ∨ a + 36 ≤ u) : SQ a ρ β h1 := by
  obtain ⟨q1, q2, q3, q4, q5, q6, q7, q8, q9, q10, q11, q12, q13, q14⟩ := hQ
  have nF : ∀ u j, a ≤ u → u < a + 36 → ¬ F u j := fun u j h1 h2 z => by have := hF u j z; omega
  refine ⟨q.k.trans q1, (q.r (nF _ _ (by omega) (by omega))).trans q2, (q.r (nF _ _ (by omega) (by omega))).trans q3, (q.r (nF _ _ (by omega) (by omega))).trans q4, q.k.trans q5, q.n.trans q6, q.k.trans q7, q.n.trans q8, q.k.trans q9, q.n.trans q10, fun i hi => ?_, fun i hi => ?_, q13, q14⟩
  · obtain ⟨e1, e2, e3, e4⟩ := q11 i hi
    exact ⟨(q.r (nF _ _ (by omega) (by omega))).trans e1, q.k.trans e2, q.n.trans e3, e4⟩
  · obtain ⟨e1, e2, e3, e4⟩ := q12 i hi
    exact ⟨(q.r (nF _ _ (by omega) (by omega))).trans e1, q.k.trans e2, q.n.trans e3, e4⟩
theorem SV.fr {F : Nat → Nat → Prop} (hQ : SQ a ρ β h) (hP : SV a ρ β s h) (hO : SOk s) (q : Fr F h h1) (hF : ∀ u j, F u j → u < a ∨ a + 36 ≤ u) : SV a ρ β s h1 := by
  obtain ⟨p1, p2, p3, p4, p5⟩ := hP
  have nF : ∀ u j, a ≤ u → u < a + 36 → ¬ F u j := fun u j h1 h2 z => by have := hF u j z; omega
  refine ⟨(q.i (nF _ _ (by omega) (by omega))).trans p1, (q.i (nF _ _ (by omega) (by omega))).trans p2, fun t ht k hk => ?_, fun b hb k hk => ?_, fun k hk => (q.i (nF _ _ (by omega) (by omega))).trans (p5 k hk)⟩
  · obtain ⟨-, -, -, e4, e5⟩ := hQ.th (Nat.lt_of_lt_of_le ht hO.1)
    exact (q.i (nF _ _ (by omega) (by omega))).trans (p3 t ht k hk)
  · obtain ⟨-, -, -, e4, e5⟩ := hQ.by (Nat.lt_of_lt_of_le hb hO.2.1)
    exact (q.i (nF _ _ (by omega) (by omega))).trans (p4 b hb k hk)
theorem c28 (hQ : SQ a ρ β h) (hP : SV a ρ β s h) (hO : SOk s) {t hr : Nat} (ht : t < sN s) (hh : hr ≤ 6) : AM 28 [.ref a, .int (nI t), .int (nI hr)] h K = K (some (.int (nI (prN s t hr)))) h := by
  have ht8 : t < 8 := Nat.lt_of_lt_of_le ht hO.1
  obtain ⟨t1, t2, t3, -, -⟩ := hQ.th ht8
  obtain ⟨s1, s2, s3, s4, s5, s6, s7, s8, s9, s10, -⟩ := hQ
  have c1 : (nI t).toNatClampNeg = t := nIc (by omega)
  have i1 : inb (nI t) 8 = True := nIb ht8 (by omega)
  have e3 := hP.t ht (k := 3) (by omega)
  have e5 := hP.t ht (k := 5) (by omega)
  have a1 := hP.aa (k := 1) (by omega)
  have b5 := (hO.2.2.1 t ht).2.2.2.2.2.2.2.1
  have b3 := (hO.2.2.1 t ht).2.2.2.2.2.1
  obtain ⟨q1, q2⟩ := prN_in hO ht hh
  have ar : nI (sT s t 5) - nI (sT s t 5) * nI (sA s 1) * nI hr / 100 = nI (sT s t 5 - sT s t 5 * sA s 1 * hr / 100) := by rw [nM, nM, nD100 (by omega), nI_subN q1]
  have l6 : (nI hr = 6) = (hr = 6) := (nLit (s := hr) (by omega)).2.2.2.2.2.2
  have l3 : (nI (sT s t 3) < nI (sT s t 5 - sT s t 5 * sA s 1 * hr / 100)) = (sT s t 3 < sT s t 5 - sT s t 5 * sA s 1 * hr / 100) := nltN (by omega) (by omega)
  simp only [v28_0, v28_1, v28_4, v28_5, v28_6, v28_7, v28_8, v28_9, v28_10, v28_12, v28_15, v28_16, v28_17, v28_18, v28_21, v28_22, v28_23, v28_24, v28_25, v28_27, v28_28, v28_30, v28_32, v28_33, v28_36, v28_37, v28_38, v28_39, v28_40, v28_41, v28_43, v28_44, v28_45, v28_48, e28, s1, s2, s4, s5, s6, s9, s10, vrf_s, true_or, or_true, true_and, and_self, ib7_0, ib7_1, ib7_2, ib7_3, ib7_4, ib7_5, ib7_6, ib3_0, ib3_1, ib3_2, ib4_0, ib4_1, ib4_2, ib4_3, tc0, tc1, tc2, tc3, tc4, tc5, tc6, t1, t2, t3, c1, i1, e3, e5, a1, ar, l6, l3, ne_eq, show ¬ (100 : Int32) = 0 from by decide, not_false_eq_true]
  unfold prN
  by_cases h6 : hr = 6
  · simp only [h6, not_true_eq_false, reduceIte]
  · simp only [h6, not_false_eq_true, reduceIte]
    by_cases hl : sT s t 3 < sT s t 5 - sT s t 5 * sA s 1 * hr / 100
    · rw [if_pos hl, if_neg (by omega)]
    · by_cases he : sT s t 5 - sT s t 5 * sA s 1 * hr / 100 < sT s t 3
      · rw [if_neg hl, if_pos he]
      · rw [if_neg hl, if_neg he, show sT s t 3 = sT s t 5 - sT s t 5 * sA s 1 * hr / 100 by omega]
theorem c29_l (hQ : SQ a ρ β h) (hP : SV a ρ β s h) (hO : SOk s) {hr X : Nat} (hh : hr ≤ 6) : ∀ (j t : Nat) (v6 : Value), t + j = sN s → V 29 13 [.ref a, .int (nI hr), .int (nI X), .int (nI (msk (onN s X.testBit hr) t)), .int (nI (sA s 0 - rmN s X.testBit hr t)), .int (nI t), v6] [] h K = K (some (.int (nI (msk (onN s X.testBit hr) (sN s))))) h := by
  have hn8 := hO.1
  obtain ⟨s1, s2, s3, s4, s5, s6, s7, s8, s9, s10, -⟩ := id hQ
  intro j
  induction j with
  | zero =>
    intro t v6 hi
    have e : t = sN s := by omega
    subst e
    have e8 : (nI (sN s) ≤ nI (sN s)) = True := eq_true (nI_le (Nat.le_refl _) (by omega))
    simp only [v29_0, v29_1, v29_2, v29_3, v29_6, v29_7, v29_8, v29_10, v29_11, v29_13, v29_15, v29_16, v29_19, v29_22, v29_23, v29_26, v29_28, v29_29, v29_31, v29_33, v29_35, v29_36, v29_37, v29_40, v29_41, v29_43, v29_46, v29_49, v29_51, v29_52, v29_53, v29_55, v29_58, v29_60, v29_62, v29_63, v29_64, v29_65, v29_67, v29_68, v29_69, v29_71, v29_72, v29_73, v29_74, v29_80, v29_81, s1, hP.1, e8, reduceIte, true_and]
  | succ j ih =>
    intro t v6 hi
    have ht : t < sN s := by omega
    have ht8 : t < 8 := Nat.lt_of_lt_of_le ht hO.1
    obtain ⟨t1, t2, t3, -, -⟩ := hQ.th ht8
    have c1 : (nI t).toNatClampNeg = t := nIc (by omega)
    have i1 : inb (nI t) 8 = True := nIb ht8 (by omega)
    have lt : (nI (sN s) ≤ nI t) = False := eq_false (nI_ge ht (by omega))
    have e2 := hP.t ht (k := 2) (by omega)
    have e6 := hP.t ht (k := 6) (by omega)
    have b2 := (hO.2.2.1 t ht).2.2.2.2.1
    have b6 := (hO.2.2.1 t ht).2.2.2.2.2.2.2.2
    have bf := hO.2.2.2.2.2.2.1
    have br := rmN_le (s := s) X.testBit hr t
    have lf : (nI hr < nI (sT s t 6)) = (hr < sT s t 6) := nltN (by omega) (by omega)
    have lr : (nI (sA s 0 - rmN s X.testBit hr t) < nI (sT s t 2)) = (sA s 0 < rmN s X.testBit hr t + sT s t 2) := by
      rw [nltN (by omega) (by omega)]
      exact propext ⟨fun h => by omega, fun h => by omega⟩
    have bi := bitI_N X t (by omega)
    have r1 : rmN s X.testBit hr (t + 1) = rmN s X.testBit hr t + if onN s X.testBit hr t = true then sT s t 2 else 0 := rfl
    have m1 : msk (onN s X.testBit hr) (t + 1) = if onN s X.testBit hr t = true then msk (onN s X.testBit hr) t ||| 2 ^ t else msk (onN s X.testBit hr) t := rfl
    have sh := nShl t (by omega)
    refine Eq.trans (b := V 29 77 [.ref a, .int (nI hr), .int (nI X), .int (nI (msk (onN s X.testBit hr) (t + 1))), .int (nI (sA s 0 - rmN s X.testBit hr (t + 1))), .int (nI (t + 1)), .ref (ρ t)] [] h K) ?_ ((v29_77 _ _ _ _).trans (ih (t + 1) _ (by omega)))
    rw [r1, m1]
    by_cases h2 : sT s t 6 ≤ hr
    · cases hs : X.testBit t with
      | true =>
        have hon : onN s X.testBit hr t = false := by simp [onN, hs]
        simp only [v29_0, v29_1, v29_2, v29_3, v29_6, v29_7, v29_8, v29_10, v29_11, v29_13, v29_15, v29_16, v29_19, v29_22, v29_23, v29_26, v29_28, v29_29, v29_31, v29_33, v29_35, v29_36, v29_37, v29_40, v29_41, v29_43, v29_46, v29_49, v29_51, v29_52, v29_53, v29_55, v29_58, v29_60, v29_62, v29_63, v29_64, v29_65, v29_67, v29_68, v29_69, v29_71, v29_72, v29_73, v29_74, v29_80, v29_81, s1, s2, s5, s6, vrf_s, true_or, or_true, true_and, and_self, ib7_0, ib7_1, ib7_2, ib7_3, ib7_4, ib7_5, ib7_6, ib3_0, ib3_1, ib3_2, ib4_0, ib4_1, ib4_2, ib4_3, tc0, tc1, tc2, tc3, tc4, tc5, tc6, t1, t2, t3, c1, i1, hP.1, lt, reduceIte, e2, e6, lf, c127, bi, hs, pu_s, z2_t, i10, not_false_eq_true, Nat.not_lt.mpr h2, hon, Bool.false_eq_true, Nat.add_zero, nI_1]
      | false =>
        by_cases h3 : rmN s X.testBit hr t + sT s t 2 ≤ sA s 0
        · have hon : onN s X.testBit hr t = true := by simp [onN, hs, h2, h3]
          have sb : nI (sA s 0 - rmN s X.testBit hr t) - nI (sT s t 2) = nI (sA s 0 - (rmN s X.testBit hr t + sT s t 2)) := by rw [nI_subN (by omega), Nat.sub_sub]
          simp only [v29_0, v29_1, v29_2, v29_3, v29_6, v29_7, v29_8, v29_10, v29_11, v29_13, v29_15, v29_16, v29_19, v29_22, v29_23, v29_26, v29_28, v29_29, v29_31, v29_33, v29_35, v29_36, v29_37, v29_40, v29_41, v29_43, v29_46, v29_49, v29_51, v29_52, v29_53, v29_55, v29_58, v29_60, v29_62, v29_63, v29_64, v29_65, v29_67, v29_68, v29_69, v29_71, v29_72, v29_73, v29_74, v29_80, v29_81, s1, s2, s5, s6, vrf_s, true_or, or_true, true_and, and_self, ib7_0, ib7_1, ib7_2, ib7_3, ib7_4, ib7_5, ib7_6, ib3_0, ib3_1, ib3_2, ib4_0, ib4_1, ib4_2, ib4_3, tc0, tc1, tc2, tc3, tc4, tc5, tc6, t1, t2, t3, c1, i1, hP.1, lt, reduceIte, e2, e6, lf, lr, c127, bi, hs, pu_s, z2_f, not_true_eq_false, Nat.not_lt.mpr h2, Nat.not_lt.mpr h3, hon, sh, nOr, sb, nI_1]
        · have hon : onN s X.testBit hr t = false := by simp [onN, h3]
          simp only [v29_0, v29_1, v29_2, v29_3, v29_6, v29_7, v29_8, v29_10, v29_11, v29_13, v29_15, v29_16, v29_19, v29_22, v29_23, v29_26, v29_28, v29_29, v29_31, v29_33, v29_35, v29_36, v29_37, v29_40, v29_41, v29_43, v29_46, v29_49, v29_51, v29_52, v29_53, v29_55, v29_58, v29_60, v29_62, v29_63, v29_64, v29_65, v29_67, v29_68, v29_69, v29_71, v29_72, v29_73, v29_74, v29_80, v29_81, s1, s2, s5, s6, vrf_s, true_or, or_true, true_and, and_self, ib7_0, ib7_1, ib7_2, ib7_3, ib7_4, ib7_5, ib7_6, ib3_0, ib3_1, ib3_2, ib4_0, ib4_1, ib4_2, ib4_3, tc0, tc1, tc2, tc3, tc4, tc5, tc6, t1, t2, t3, c1, i1, hP.1, lt, reduceIte, e2, e6, lf, lr, c127, bi, hs, pu_s, z2_f, not_true_eq_false, Nat.not_lt.mpr h2, Nat.not_le.mp h3, hon, Bool.false_eq_true, Nat.add_zero, nI_1]
    · have hon : onN s X.testBit hr t = false := by simp [onN, h2]
      simp only [v29_0, v29_1, v29_2, v29_3, v29_6, v29_7, v29_8, v29_10, v29_11, v29_13, v29_15, v29_16, v29_19, v29_22, v29_23, v29_26, v29_28, v29_29, v29_31, v29_33, v29_35, v29_36, v29_37, v29_40, v29_41, v29_43, v29_46, v29_49, v29_51, v29_52, v29_53, v29_55, v29_58, v29_60, v29_62, v29_63, v29_64, v29_65, v29_67, v29_68, v29_69, v29_71, v29_72, v29_73, v29_74, v29_80, v29_81, s1, s2, s5, s6, vrf_s, true_or, or_true, true_and, and_self, ib7_0, ib7_1, ib7_2, ib7_3, ib7_4, ib7_5, ib7_6, ib3_0, ib3_1, ib3_2, ib4_0, ib4_1, ib4_2, ib4_3, tc0, tc1, tc2, tc3, tc4, tc5, tc6, t1, t2, t3, c1, i1, hP.1, lt, reduceIte, e2, e6, lf, Nat.not_le.mp h2, hon, Bool.false_eq_true, Nat.add_zero, nI_1]
/-- layOut -/
theorem c29 (hQ : SQ a ρ β h) (hP : SV a ρ β s h) (hO : SOk s) {hr X : Nat} (hh : hr ≤ 6) : AM 29 [.ref a, .int (nI hr), .int (nI X)] h K = K (some (.int (nI (msk (onN s X.testBit hr) (sN s))))) h := by
  obtain ⟨s1, s2, s3, s4, s5, s6, s7, s8, s9, s10, -⟩ := id hQ
  have a0 := hP.aa (k := 0) (by omega)
  simp only [e29, v29_0, v29_1, v29_2, v29_3, v29_6, v29_7, v29_8, v29_10, v29_11, s1, s4, s9, s10, vrf_s, true_or, true_and, and_self, ib7_0, ib7_1, ib7_2, ib7_3, ib7_4, ib7_5, ib7_6, ib3_0, ib3_1, ib3_2, ib4_0, ib4_1, ib4_2, ib4_3, tc0, tc1, tc2, tc3, tc4, tc5, tc6, a0]
  exact c29_l hQ hP hO hh (sN s) 0 un0 (Nat.zero_add _)
end
