/-! TOLD MARKS: judge, told, marks, on both sides -/
theorem lg_le (x y : Int64) : (lg_cmp x y ≤ 0) = (x ≤ y) := by
  apply propext
  have h := lg_gt x y
  constructor
  · intro z
    apply Int64.not_lt.mp
    intro w
    rw [← h] at w
    exact absurd w (Int32.not_lt.mpr z)
  · intro z
    apply Int32.not_lt.mp
    intro w
    rw [h] at w
    exact absurd w (Int64.not_lt.mpr z)
theorem r3m : (-2 : Int32) - nI 3 = -5 := by decide
def fwN (el : Nat → Int64) : Nat → Nat → Option Nat
  | 0, _ => none
  | j + 1, t => if inJ (el t) 0 99 = true then fwN el j (t + 1) else some t
theorem fwN_n {el : Nat → Int64} : ∀ (j t : Nat), fwN el j t = none → ∀ x, t ≤ x → x < t + j → inJ (el x) 0 99 = true
  | 0, t, _, x, h1, h2 => absurd h2 (by omega)
  | j + 1, t, h, x, h1, h2 => by
    unfold fwN at h
    split at h
    · rename_i q
      by_cases e : x = t
      · subst e; exact q
      · exact fwN_n j (t + 1) h x (by omega) (by omega)
    · cases h
theorem fwN_s {el : Nat → Int64} : ∀ (j t y : Nat), fwN el j t = some y → y < t + j
  | 0, t, y, h => by cases h
  | j + 1, t, y, h => by
    unfold fwN at h
    split at h
    · have := fwN_s j (t + 1) y h
      omega
    · cases h
      omega
def mkE (el : Nat → Int64) (t : Nat) : Nat := (el t).toInt32.toNatClampNeg
theorem mkE_ok {el : Nat → Int64} {t : Nat} (h : inJ (el t) 0 99 = true) : (el t).toInt32 = nI (mkE el t) ∧ mkE el t ≤ 99 := by
  obtain ⟨h1, h2⟩ := inJ_t.mp h
  rw [Int64.le_iff_toInt_le] at h1 h2
  have e1 : (0 : Int64).toInt = 0 := rfl
  have e2 : (99 : Int64).toInt = 99 := rfl
  rw [e1] at h1
  rw [e2] at h2
  have e3 : (el t).toInt32.toInt = (el t).toInt := by
    rw [Int64.toInt_toInt32]
    simp only [Int.bmod]
    split <;> omega
  have e4 : (0 : Int32) ≤ (el t).toInt32 := by
    rw [Int32.le_iff_toInt_le, e3]
    exact h1
  have e5 := nI_back e4
  refine ⟨e5.symm, ?_⟩
  have e6 : (nI (el t).toInt32.toNatClampNeg).toInt ≤ 99 := by rw [e5, e3]; exact h2
  unfold mkE
  obtain ⟨j, hj, e7⟩ := nI_of (Int32.not_lt.mpr e4)
  rw [e7, nI_clamp hj] at e6 ⊢
  rw [nI_toInt hj] at e6
  omega
def mrC (A : XA) (s : Int32) : Option Nat := match rrC A s with
  | some w => some w
  | none => if (aH A s.toNatClampNeg).2.1 < sN (aS A) then some 0 else none
def wmN (A : XA) (s : Int32) : Option Nat := fwN (aH A s.toNatClampNeg).2.2 (sN (aS A)) 0
def gmC (A : XA) (s : Int32) : Option Nat := match mrC A s with
  | some w => some w
  | none => match wmN A s with
    | some _ => some 3
    | none => none
theorem mrC_lt {A : XA} {s : Int32} {w : Nat} (h : mrC A s = some w) : w < 5 := by
  unfold mrC at h
  cases hr : rrC A s with
  | some x => rw [hr] at h; cases h; have := rrC_lt hr; omega
  | none =>
    rw [hr] at h
    dsimp only at h
    split at h
    · cases h; decide
    · cases h
theorem gmC_lt {A : XA} {s : Int32} {w : Nat} (h : gmC A s = some w) : w < 5 := by
  unfold gmC at h
  cases hr : mrC A s with
  | some x => rw [hr] at h; cases h; exact mrC_lt hr
  | none =>
    rw [hr] at h
    dsimp only at h
    cases hm : wmN A s with
    | some y => rw [hm] at h; cases h; decide
    | none => rw [hm] at h; cases h
theorem mrC_n {A : XA} {s : Int32} (h : mrC A s = none) : rrC A s = none ∧ sN (aS A) ≤ (aH A s.toNatClampNeg).2.1 := by
  unfold mrC at h
  cases hr : rrC A s with
  | some x => rw [hr] at h; cases h
  | none =>
    rw [hr] at h
    dsimp only at h
    split at h
    · cases h
    · exact ⟨rfl, by omega⟩
theorem gmC_n {A : XA} {s : Int32} (h : gmC A s = none) : mrC A s = none ∧ wmN A s = none := by
  unfold gmC at h
  cases hr : mrC A s with
  | some x => rw [hr] at h; cases h
  | none =>
    rw [hr] at h
    dsimp only at h
    cases hm : wmN A s with
    | some y => rw [hm] at h; cases h
    | none => exact ⟨rfl, rfl⟩
def oJdg (A : XA) (s : Int32) : XA × Int32 := match mrC A s with
  | some w => rfI A w (-2 - nI w)
  | none => (A, oI (wmN A s))
def oTld (A : XA) (s : Int32) : XA × Int32 := match gmC A s with
  | some w => rfI A w (-1000000 + (-2 - nI w))
  | none => (A, gaI (sgK (aS A) (mkE (aH A s.toNatClampNeg).2.2)) p0)
def oMks (A : XA) (s : Int32) : XA × Int32 := match gmC A s with
  | some w => rfI A w (-2 - nI w)
  | none => (wS A (sgK (aS A) (mkE (aH A s.toNatClampNeg).2.2)), nI (sN (aS A)))
section
variable {b m x : Nat} {u : LU} {A : XA} {s : SG} {h h1 : Hp} {K : Option Value → Hp → Prop}
theorem k116 (hC : CL b A h) (hW : WF A) {i : Nat} (hi : i < 8) : AM 116 [.ref b, .ref (b + 122 + 2 * i)] h K = K (some (.int (oI (fwN (aH A i).2.2 (sN (aS A)) 0)))) h := by
  obtain ⟨⟨cn, kb, f0, f1, f3, f4, f5, f6⟩, hST, hKP, hTR, hTA, ⟨s1, s2, s3⟩, hRF⟩ := id hC
  have hn8 := hW.1.1
  obtain ⟨ρ, β, hQ, hV, hO, -⟩ := id hST
  have k3 := hQ.1
  obtain ⟨x1, x2, x3, x4, x5, x6, x7, x8⟩ := s3 i hi
  obtain ⟨a2, y1, y2, y3, y4⟩ := cn.tb (j := 2) (by decide)
  obtain ⟨a3, z1, z2', z3, z4⟩ := cn.tb (j := 3) (by decide)
  have n2 : gN h a2 = 7 := y3
  have n3 : gN h a3 = 7 := z3
  have e2 : gI h a2 5 = 0 := y4 5 (by decide)
  have e3 : gI h a3 5 = 99 := z4 5 (by decide)
  have l0 : (0 : Int32).toInt64 = 0 := by decide
  have l99 : (99 : Int32).toInt64 = 99 := by decide
  have l : ∀ (j t : Nat) (v3 v4 : Value), t + j = sN (aS A) → V 116 2 [.ref b, .ref (b + 122 + 2 * i), .int (nI t), v3, v4] [] h K = K (some (.int (oI (fwN (aH A i).2.2 j t)))) h := by
    intro j
    induction j with
    | zero =>
      intro t v3 v4 ht
      have e : t = sN (aS A) := by omega
      subst e
      have e8 : (nI (sN (aS A)) ≤ nI (sN (aS A))) = True := eq_true (nI_le (Nat.le_refl _) (by omega))
      simp only [v116_0, v116_1, v116_2, v116_3, v116_4, v116_7, v116_10, v116_13, v116_14, v116_17, v116_18, v116_19, v116_20, v116_21, v116_24, v116_25, v116_26, v116_27, v116_28, v116_31, v116_32, v116_35, v116_36, v116_37, v116_38, v116_39, v116_42, v116_43, v116_44, v116_50, v116_51, kb, f0, f1, f3, f4, f5, f6, vrf_s, true_and, true_or, or_true, and_self, not_false_eq_true, pu_s, pu_n, z2_e0, z2_n0, z2_t, z2_f, k3, hV.1, e8, reduceIte]
      rfl
    | succ j ih =>
      intro t v3 v4 ht
      have e8 : (nI (sN (aS A)) ≤ nI t) = False := eq_false (nI_ge (by omega) (by omega))
      have c1 : (nI t).toNatClampNeg = t := nIc (by omega)
      have i1 : inb (nI t) 40 = True := nIb (by omega) (by omega)
      have ee := x8 t (by omega)
      have r : fwN (aH A i).2.2 (j + 1) t = if inJ ((aH A i).2.2 t) 0 99 = true then fwN (aH A i).2.2 j (t + 1) else some t := rfl
      rw [r]
      by_cases g1 : (aH A i).2.2 t < 0
      · have gj : ¬ inJ ((aH A i).2.2 t) 0 99 = true := fun z => absurd (inJ_t.mp z).1 (Int64.not_le.mpr g1)
        rw [if_neg gj]
        simp only [v116_0, v116_1, v116_2, v116_3, v116_4, v116_7, v116_10, v116_13, v116_14, v116_17, v116_18, v116_19, v116_20, v116_21, v116_24, v116_25, v116_26, v116_27, v116_28, v116_31, v116_32, v116_35, v116_36, v116_37, v116_38, v116_39, v116_42, v116_43, v116_44, v116_50, v116_51, kb, f0, f1, f3, f4, f5, f6, vrf_s, true_and, true_or, or_true, and_self, not_false_eq_true, pu_s, pu_n, z2_e0, z2_n0, z2_t, z2_f, k3, hV.1, e8, reduceIte, x2, x3, x4, x5, c1, i1, ee, y1, y2, z1, z2', n2, n3, ib7_0, ib7_1, ib7_2, ib7_3, ib7_4, ib7_5, ib7_6, ib3_0, ib3_1, ib3_2, ib4_0, ib4_1, ib4_2, ib4_3, tc0, tc1, tc2, tc3, tc4, tc5, tc6, e2, e3, l0, l99, lg_lt, lg_le, g1]
        rfl
      · by_cases g2 : (aH A i).2.2 t ≤ 99
        · have gj : inJ ((aH A i).2.2 t) 0 99 = true := inJ_t.mpr ⟨Int64.not_lt.mp g1, g2⟩
          rw [if_pos gj]
          simp only [v116_0, v116_1, v116_2, v116_3, v116_4, v116_7, v116_10, v116_13, v116_14, v116_17, v116_18, v116_19, v116_20, v116_21, v116_24, v116_25, v116_26, v116_27, v116_28, v116_31, v116_32, v116_35, v116_36, v116_37, v116_38, v116_39, v116_42, v116_43, v116_44, v116_50, v116_51, kb, f0, f1, f3, f4, f5, f6, vrf_s, true_and, true_or, or_true, and_self, not_false_eq_true, pu_s, pu_n, z2_e0, z2_n0, z2_t, z2_f, k3, hV.1, e8, reduceIte, x2, x3, x4, x5, c1, i1, ee, y1, y2, z1, z2', n2, n3, ib7_0, ib7_1, ib7_2, ib7_3, ib7_4, ib7_5, ib7_6, ib3_0, ib3_1, ib3_2, ib4_0, ib4_1, ib4_2, ib4_3, tc0, tc1, tc2, tc3, tc4, tc5, tc6, e2, e3, l0, l99, lg_lt, lg_le, g1, g2, nI_1]
          rw [v116_47]
          exact ih (t + 1) _ _ (by omega)
        · have gj : ¬ inJ ((aH A i).2.2 t) 0 99 = true := fun z => g2 (inJ_t.mp z).2
          rw [if_neg gj]
          simp only [v116_0, v116_1, v116_2, v116_3, v116_4, v116_7, v116_10, v116_13, v116_14, v116_17, v116_18, v116_19, v116_20, v116_21, v116_24, v116_25, v116_26, v116_27, v116_28, v116_31, v116_32, v116_35, v116_36, v116_37, v116_38, v116_39, v116_42, v116_43, v116_44, v116_50, v116_51, kb, f0, f1, f3, f4, f5, f6, vrf_s, true_and, true_or, or_true, and_self, not_false_eq_true, pu_s, pu_n, z2_e0, z2_n0, z2_t, z2_f, k3, hV.1, e8, reduceIte, x2, x3, x4, x5, c1, i1, ee, y1, y2, z1, z2', n2, n3, ib7_0, ib7_1, ib7_2, ib7_3, ib7_4, ib7_5, ib7_6, ib3_0, ib3_1, ib3_2, ib4_0, ib4_1, ib4_2, ib4_3, tc0, tc1, tc2, tc3, tc4, tc5, tc6, e2, e3, l0, l99, lg_lt, lg_le, g1, g2]
          rfl
  simp only [e116, v116_0, v116_1]
  exact l (sN (aS A)) 0 _ _ (Nat.zero_add _)
theorem k114 (hC : CL b A h) (hW : WF A) (s : Int32) : AM 114 [.ref b, .int s] h K = K (some (.int (match mrC A s with | some w => -2 - nI w | none => 0))) h := by
  obtain ⟨⟨cn, kb, f0, f1, f3, f4, f5, f6⟩, hST, hKP, hTR, hTA, ⟨s1, s2, s3⟩, hRF⟩ := id hC
  have hn8 := hW.1.1
  obtain ⟨ρ, β, hQ, hV, hO, -⟩ := id hST
  have k3 := hQ.1
  unfold mrC
  cases hs : rrC A s with
  | some w =>
    have ne := rf_ne (w := w) (by have := rrC_lt hs; omega)
    simp only [v114_0, v114_1, v114_2, v114_5, v114_6, v114_7, v114_10, v114_11, v114_12, v114_13, v114_16, v114_17, v114_18, v114_21, v114_22, v114_25, v114_28, v114_31, v114_33, v114_36, v114_37, e114, kb, f0, f1, f3, f4, f5, f6, vrf_s, true_and, true_or, or_true, and_self, not_false_eq_true, pu_s, pu_n, z2_e0, z2_n0, z2_t, z2_f, k113 hC hW, hs, ne, reduceIte]
  | none =>
    obtain ⟨i, es, rfl, hi, k, hk, hk4⟩ := rrC_n hs
    obtain ⟨x1, x2, x3, x4, x5, x6, x7, x8⟩ := s3 i (by omega)
    have c1 : (nI i).toNatClampNeg = i := nIc (by omega)
    have i1 : inb (nI i) 8 = True := nIb (by omega) (by omega)
    have hz := (hW.2.2.2.2 i (by omega)).1
    have le : (nI (sN (aS A)) ≤ nI (aH A i).2.1) = (sN (aS A) ≤ (aH A i).2.1) := nleN (by omega) (by omega)
    rw [c1]
    by_cases g : (aH A i).2.1 < sN (aS A)
    · rw [eq_false (show ¬ sN (aS A) ≤ (aH A i).2.1 by omega)] at le
      simp only [v114_0, v114_1, v114_2, v114_5, v114_6, v114_7, v114_10, v114_11, v114_12, v114_13, v114_16, v114_17, v114_18, v114_21, v114_22, v114_25, v114_28, v114_31, v114_33, v114_36, v114_37, e114, kb, f0, f1, f3, f4, f5, f6, vrf_s, true_and, true_or, or_true, and_self, not_false_eq_true, pu_s, pu_n, z2_e0, z2_n0, z2_t, z2_f, k113 hC hW, hs, reduceIte, s1, s2, c1, i1, x1, x2, x7, k3, hV.1, le, g]
      rfl
    · rw [eq_true (show sN (aS A) ≤ (aH A i).2.1 by omega)] at le
      simp only [v114_0, v114_1, v114_2, v114_5, v114_6, v114_7, v114_10, v114_11, v114_12, v114_13, v114_16, v114_17, v114_18, v114_21, v114_22, v114_25, v114_28, v114_31, v114_33, v114_36, v114_37, e114, kb, f0, f1, f3, f4, f5, f6, vrf_s, true_and, true_or, or_true, and_self, not_false_eq_true, pu_s, pu_n, z2_e0, z2_n0, z2_t, z2_f, k113 hC hW, hs, reduceIte, s1, s2, c1, i1, x1, x2, x7, k3, hV.1, le, g]
theorem k115 (hC : CL b A h) (hW : WF A) (s : Int32) : AM 115 [.ref b, .int s] h K = K (some (.int (match gmC A s with | some w => -2 - nI w | none => 0))) h := by
  obtain ⟨⟨cn, kb, f0, f1, f3, f4, f5, f6⟩, hST, hKP, hTR, hTA, ⟨s1, s2, s3⟩, hRF⟩ := id hC
  unfold gmC
  cases hs : mrC A s with
  | some w =>
    have ne := rf_ne (w := w) (mrC_lt hs)
    simp only [v115_0, v115_1, v115_2, v115_5, v115_6, v115_7, v115_10, v115_11, v115_12, v115_13, v115_14, v115_17, v115_18, v115_19, v115_22, v115_23, v115_26, v115_27, v115_30, v115_32, e115, kb, f0, f1, f3, f4, f5, f6, vrf_s, true_and, true_or, or_true, and_self, not_false_eq_true, pu_s, pu_n, z2_e0, z2_n0, z2_t, z2_f, k114 hC hW, hs, ne, reduceIte]
  | none =>
    obtain ⟨hr, hsz⟩ := mrC_n hs
    obtain ⟨i, es, rfl, hi, k, hk, hk4⟩ := rrC_n hr
    obtain ⟨x1, x2, x3, x4, x5, x6, x7, x8⟩ := s3 i (by omega)
    have c1 : (nI i).toNatClampNeg = i := nIc (by omega)
    have i1 : inb (nI i) 8 = True := nIb (by omega) (by omega)
    have hn8 := hW.1.1
    unfold wmN
    rw [c1]
    cases hw : fwN (aH A i).2.2 (sN (aS A)) 0 with
    | none => simp only [v115_0, v115_1, v115_2, v115_5, v115_6, v115_7, v115_10, v115_11, v115_12, v115_13, v115_14, v115_17, v115_18, v115_19, v115_22, v115_23, v115_26, v115_27, v115_30, v115_32, e115, kb, f0, f1, f3, f4, f5, f6, vrf_s, true_and, true_or, or_true, and_self, not_false_eq_true, pu_s, pu_n, z2_e0, z2_n0, z2_t, z2_f, k114 hC hW, hs, reduceIte, s1, s2, c1, i1, x1, k116 hC hW (show i < 8 by omega), hw, oI, not_true_eq_false]
    | some y =>
      have := fwN_s _ _ _ hw
      have l1 : (nI y = -1) = False := nm1 (by omega)
      simp only [v115_0, v115_1, v115_2, v115_5, v115_6, v115_7, v115_10, v115_11, v115_12, v115_13, v115_14, v115_17, v115_18, v115_19, v115_22, v115_23, v115_26, v115_27, v115_30, v115_32, e115, kb, f0, f1, f3, f4, f5, f6, vrf_s, true_and, true_or, or_true, and_self, not_false_eq_true, pu_s, pu_n, z2_e0, z2_n0, z2_t, z2_f, k114 hC hW, hs, reduceIte, s1, s2, c1, i1, x1, k116 hC hW (show i < 8 by omega), hw, oI, l1, not_false_eq_true, r3m]
theorem k97 (hC : CL b A h) (hW : WF A) (s : Int32) (kk : ∀ h2, Fr (CW b) h h2 → CL b (oJdg A s).1 h2 → K (some (.int (oJdg A s).2)) h2) : AM 97 [.ref b, .int s] h K := by
  obtain ⟨⟨cn, kb, f0, f1, f3, f4, f5, f6⟩, hST, hKP, hTR, hTA, ⟨s1, s2, s3⟩, hRF⟩ := id hC
  unfold oJdg at kk
  cases hs : mrC A s with
  | some w =>
    rw [hs] at kk
    have hw := mrC_lt hs
    have ne := rf_ne hw
    simp only [v97_0, v97_1, v97_2, v97_5, v97_6, v97_7, v97_10, v97_11, v97_12, v97_15, v97_16, v97_17, v97_18, v97_21, v97_22, v97_23, v97_26, e97, kb, f0, f1, f3, f4, f5, f6, vrf_s, true_and, true_or, or_true, and_self, not_false_eq_true, pu_s, pu_n, z2_e0, z2_n0, z2_t, z2_f, k114 hC hW, hs, ne, reduceIte]
    exact k108 (w := w) hC hW hw (rf_b hw) (fun h2 q2 hC2 => by simp only [pu_s, v97_15]; exact kk h2 q2 hC2)
  | none =>
    rw [hs] at kk
    obtain ⟨hr, hsz⟩ := mrC_n hs
    obtain ⟨i, es, rfl, hi, k, hk, hk4⟩ := rrC_n hr
    obtain ⟨x1, x2, x3, x4, x5, x6, x7, x8⟩ := s3 i (by omega)
    have c1 : (nI i).toNatClampNeg = i := nIc (by omega)
    have i1 : inb (nI i) 8 = True := nIb (by omega) (by omega)
    have f := kk h Fr.rf hC
    unfold wmN at f
    rw [c1] at f
    simp only [v97_0, v97_1, v97_2, v97_5, v97_6, v97_7, v97_10, v97_11, v97_12, v97_15, v97_16, v97_17, v97_18, v97_21, v97_22, v97_23, v97_26, e97, kb, f0, f1, f3, f4, f5, f6, vrf_s, true_and, true_or, or_true, and_self, not_false_eq_true, pu_s, pu_n, z2_e0, z2_n0, z2_t, z2_f, k114 hC hW, hs, reduceIte, s1, s2, c1, i1, x1, k116 hC hW (show i < 8 by omega)]
    exact f
theorem k99 (hC : CL b A h) (hW : WF A) (s : Int32) (kk : ∀ h2, Fr (CW b) h h2 → CL b (oMks A s).1 h2 → K (some (.int (oMks A s).2)) h2) : AM 99 [.ref b, .int s] h K := by
  obtain ⟨⟨cn, kb, f0, f1, f3, f4, f5, f6⟩, hST, hKP, hTR, hTA, ⟨s1, s2, s3⟩, hRF⟩ := id hC
  unfold oMks at kk
  cases hs : gmC A s with
  | some w =>
    rw [hs] at kk
    have hw := gmC_lt hs
    have ne := rf_ne hw
    simp only [v99_0, v99_1, v99_2, v99_5, v99_6, v99_7, v99_10, v99_11, v99_12, v99_15, v99_16, v99_17, v99_20, v99_21, v99_24, v99_25, v99_26, v99_29, v99_32, v99_33, v99_36, v99_39, e99, kb, f0, f1, f3, f4, f5, f6, vrf_s, true_and, true_or, or_true, and_self, not_false_eq_true, pu_s, pu_n, z2_e0, z2_n0, z2_t, z2_f, k115 hC hW, hs, ne, reduceIte]
    exact k108 (w := w) hC hW hw (rf_b hw) (fun h2 q2 hC2 => by simp only [pu_s, v99_15]; exact kk h2 q2 hC2)
  | none =>
    rw [hs] at kk
    obtain ⟨hm, hwm⟩ := gmC_n hs
    obtain ⟨hr, hsz⟩ := mrC_n hm
    obtain ⟨i, es, rfl, hi, k, hk, hk4⟩ := rrC_n hr
    obtain ⟨x1, x2, x3, x4, x5, x6, x7, x8⟩ := s3 i (by omega)
    have c1 : (nI i).toNatClampNeg = i := nIc (by omega)
    have i1 : inb (nI i) 8 = True := nIb (by omega) (by omega)
    obtain ⟨ρ, β, hQ, hV, hO, -⟩ := id hST
    have k3 := hQ.1
    have hn8 := hO.1
    rw [c1] at kk hsz
    unfold wmN at hwm
    rw [c1] at hwm
    have sz := (hW.2.2.2.2 i (by omega)).1
    have hmk : ∀ t, t < sN (aS A) → ((aH A i).2.2 t).toInt32 = nI (mkE (aH A i).2.2 t) ∧ mkE (aH A i).2.2 t ≤ 99 := fun t ht => mkE_ok (fwN_n _ _ hwm t (Nat.zero_le _) (by omega))
    simp only [v99_0, v99_1, v99_2, v99_5, v99_6, v99_7, v99_10, v99_11, v99_12, v99_15, v99_16, v99_17, v99_20, v99_21, v99_24, v99_25, v99_26, v99_29, v99_32, v99_33, v99_36, v99_39, e99, kb, f0, f1, f3, f4, f5, f6, vrf_s, true_and, true_or, or_true, and_self, not_false_eq_true, pu_s, pu_n, z2_e0, z2_n0, z2_t, z2_f, k115 hC hW, hs, reduceIte, s1, s2, c1, i1, x1, x2, x3, k3]
    refine c27 hQ hV hO x4 x5 (mk := mkE (aH A i).2.2) (fun t ht => by rw [x8 t (by omega)]; exact (hmk t ht).1) (by omega) (fun h2 q2 q2i hV2 => ?_)
    have hO2 := hO.mks (mk := mkE (aH A i).2.2) (fun t ht => (hmk t ht).2)
    have hC2 := hC.ss hW q2 (fun x j z => by omega) (hQ.fi q2i) hV2 hO2
    obtain ⟨⟨cn2, kb2, g0, -⟩, -⟩ := id hC2
    have k32 : gK h2 (b + 1) = 3 := (hQ.fi q2i).1
    have e1 : gI h2 (b + 1) 1 = nI (sN (aS A)) := hV2.1
    simp only [pu_n, v99_32, v99_33, v99_36, v99_39, kb2, g0, vrf_s, k32, e1, true_and]
    exact kk h2 (q2.mo (fun x j z => by unfold CW; omega)) hC2
theorem k98 (hC : CL b A h) (hW : WF A) (s : Int32) (kk : ∀ h2, Fr (CW b) h h2 → CL b (oTld A s).1 h2 → K (some (.int (oTld A s).2)) h2) : AM 98 [.ref b, .int s] h K := by
  obtain ⟨⟨cn, kb, f0, f1, f3, f4, f5, f6⟩, hST, hKP, hTR, hTA, ⟨s1, s2, s3⟩, hRF⟩ := id hC
  unfold oTld at kk
  cases hs : gmC A s with
  | some w =>
    rw [hs] at kk
    have hw := gmC_lt hs
    have ne := rf_ne hw
    simp only [v98_0, v98_1, v98_2, v98_5, v98_6, v98_7, v98_10, v98_11, v98_12, v98_15, v98_16, v98_17, v98_20, v98_21, v98_24, v98_27, v98_28, v98_31, v98_34, v98_35, v98_38, v98_39, v98_40, v98_43, v98_46, v98_47, v98_50, v98_53, e98, kb, f0, f1, f3, f4, f5, f6, vrf_s, true_and, true_or, or_true, and_self, not_false_eq_true, pu_s, pu_n, z2_e0, z2_n0, z2_t, z2_f, k115 hC hW, hs, ne, reduceIte]
    exact k109 (w := w) hC hW hw (rf_b hw) (fun h2 q2 hC2 => by simp only [pu_s, v98_15]; exact kk h2 q2 hC2)
  | none =>
    rw [hs] at kk
    obtain ⟨hm, hwm⟩ := gmC_n hs
    obtain ⟨hr, hsz⟩ := mrC_n hm
    obtain ⟨i, es, rfl, hi, k, hk, hk4⟩ := rrC_n hr
    have c1 : (nI i).toNatClampNeg = i := nIc (by omega)
    have i1 : inb (nI i) 8 = True := nIb (by omega) (by omega)
    obtain ⟨ρ, β, hQ, hV, hO, -⟩ := id hST
    obtain ⟨ρ', β', hT⟩ := id hTR
    have hn8 := hO.1
    rw [c1] at kk hsz
    unfold wmN at hwm
    rw [c1] at hwm
    have sz := (hW.2.2.2.2 i (by omega)).1
    have hmk : ∀ t, t < sN (aS A) → ((aH A i).2.2 t).toInt32 = nI (mkE (aH A i).2.2 t) ∧ mkE (aH A i).2.2 t ≤ 99 := fun t ht => mkE_ok (fwN_n _ _ hwm t (Nat.zero_le _) (by omega))
    have hO2 := hO.mks (mk := mkE (aH A i).2.2) (fun t ht => (hmk t ht).2)
    have k5 : gK h (b + 73) = 5 := hT.1
    simp only [e98, v98_0, v98_1, v98_2, v98_5, v98_6, v98_7, v98_16, v98_17, v98_20, v98_21, v98_24, kb, f0, f1, f3, f4, f5, f6, vrf_s, true_and, true_or, or_true, and_self, not_false_eq_true, pu_s, pu_n, z2_e0, z2_n0, z2_t, z2_f, k115 hC hW, hs, reduceIte, k5]
    refine c42 cn (by omega) hT (by omega) hQ hV hO (fun h2 q2 hP2 _ _ _ => ?_)
    have hC2 := hC.ut hW q2 TWc ⟨ρ', β', hP2.1⟩
    obtain ⟨⟨cn2, kb2, -, -, g3, -, g5, -⟩, -, -, -, -, ⟨s12, s22, s32⟩, -⟩ := id hC2
    obtain ⟨x1, x2, x3, x4, x5, x6, x7, x8⟩ := s32 i (by omega)
    obtain ⟨⟨t1, t2, t3, t4, hQ2, t6, t7⟩, hV2, hS2, hT2, hG2'⟩ := id hP2
    have k3 : gK h2 (b + 74) = 3 := hQ2.1
    simp only [pu_n, v98_27, v98_28, v98_31, v98_34, v98_35, v98_38, v98_39, v98_40, v98_43, kb2, g3, g5, vrf_s, t1, t2, k3, s12, s22, x1, x2, x3, c1, i1, true_and, true_or, or_true, and_self]
    refine c27 hQ2 hV2 hO x4 x5 (mk := mkE (aH A i).2.2) (fun t ht => by rw [x8 t (by omega)]; exact (hmk t ht).1) (by omega) (fun h3 q3 q3i hV3 => ?_)
    have q3t : Fr (TW (b + 74) (b + 110)) h2 h3 := q3.mo (fun x j z => by unfold TW; omega)
    obtain ⟨w1, w2, w3, w4, w5, w6, w7, w8, w9, w10, w11, w12, w13, w14, w15, w16, w17, w18, w19, w20⟩ := id hS2
    have hSh3 : OSh (b + 110) (b + 74) h3 := ⟨q3.k.trans w1, (q3.r (fun z => by omega)).trans w2, (q3.r (fun z => by omega)).trans w3, (q3.r (fun z => by omega)).trans w4, (q3.r (fun z => by omega)).trans w5, (q3.r (fun z => by omega)).trans w6, (q3.r (fun z => by omega)).trans w7, (q3.r (fun z => by omega)).trans w8, q3.k.trans w9, q3.k.trans w10, q3.k.trans w11, q3.k.trans w12, q3.k.trans w13, q3.k.trans w14, q3.n.trans w15, q3.n.trans w16, q3.n.trans w17, q3.n.trans w18, q3.n.trans w19, q3.n.trans w20⟩
    have hT3 : OT (b + 110) (aS A) (pCap p0) h3 := ⟨(q3.i (fun z => by omega)).trans hT2.1, fun so t d a1 a2 a3 => (q3.i (fun z => by omega)).trans (hT2.2 so t d a1 a2 a3)⟩
    have hT3' : OT (b + 110) (sgK (aS A) (mkE (aH A i).2.2)) (pCap p0) h3 := OT.same hT3 rfl (fun t ht => ⟨rfl, rfl, rfl⟩)
    have hP3 : TP (b + 73) (b + 74) (b + 110) ρ' β' (sgK (aS A) (mkE (aH A i).2.2)) p0 h3 := ⟨⟨q3.k.trans t1, (q3.r (fun z => by omega)).trans t2, (q3.r (fun z => by omega)).trans t3, t4.fr q3 (fun j _ _ z => by omega), hQ2.fi q3i, t6, t7⟩, hV3, hSh3, hT3', ⟨(q3.i (fun z => by omega)).trans hG2'.1, fun q hq => by cases hq⟩⟩
    have kb3 : gK h3 b = 6 := q3.k.trans kb2
    have g33 : gR h3 b 3 = some (b + 73) := (q3.r (fun z => by omega)).trans g3
    have k53 := hP3.1.1
    simp only [pu_n, v98_46, v98_47, v98_50, kb3, g33, vrf_s, k53, true_and]
    refine c43 hP3 hO2 (p0_ok _) p0_cl (fun h4 q4 hP4 hD4 => ?_)
    have q5 := (q2.tr q3t).tr (q4.mo OW.t)
    simp only [pu_s, v98_53]
    exact kk h4 (q5.mo TWw) (hC.ut hW q5 TWc ⟨ρ', β', hP4.1⟩)
/-! the reference's -/
theorem k219 (hR : MR m u A h) (hW : WF A) (s : Int32) (kn : mrC A s = none → K (some (.int 0)) h) (ks : ∀ (w : Nat) (h2 : Hp), mrC A s = some w → Fr (fun a _ => a = m + 16) h h2 → MR m u (rfu A w) h2 → K (some (.int (-2 - nI w))) h2) : AM 219 [.ref m, .int s] h K := by
  obtain ⟨r0, hM, hpp, hP, hQ, hS, hT, hF, hL⟩ := id hR
  have hn8 := hW.1.1
  simp only [e219, v219_0, v219_1, v219_2, hM.k0, true_and]
  refine k140 hR hW s (fun hn => ?_) (fun w h2 hs q2 hR2 => ?_)
  · obtain ⟨i, es, rfl, hi, k, hk, hk4⟩ := rrC_n hn
    obtain ⟨y1, y2, y3, y4⟩ := hS i (by omega)
    have c1 : (nI i).toNatClampNeg = i := nIc (by omega)
    have i1 : inb (nI i) 8 = True := nIb (by omega) (by omega)
    have hz := (hW.2.2.2.2 i (by omega)).1
    have le : (nI (sN (aS A)) ≤ nI (aH A i).2.1) = (sN (aS A) ≤ (aH A i).2.1) := nleN (by omega) (by omega)
    unfold mrC at kn ks
    rw [hn] at kn ks
    dsimp only at kn ks
    rw [c1] at kn ks
    by_cases g : (aH A i).2.1 < sN (aS A)
    · rw [if_pos g] at ks
      rw [eq_false (show ¬ sN (aS A) ≤ (aH A i).2.1 by omega)] at le
      simp only [v219_0, v219_1, v219_2, v219_5, v219_6, v219_7, v219_10, v219_11, v219_12, v219_13, v219_16, v219_17, v219_18, v219_19, v219_22, v219_25, v219_26, v219_28, v219_31, v219_34, v219_35, hM.f0, hM.f1, hM.f2, hM.f3, hM.f4, hM.f5, hM.f6, hM.f8, hM.f10, hM.f12, hM.f13, hM.f25, hM.f27, hM.f28, hM.f36, hM.f37, hM.f38, hM.f40, hM.k0, hM.k1, hM.k2, hM.k3, hM.k4, hM.k13, hM.k14, hM.k15, hM.k16, hM.k17, hM.k26, hM.k51, hM.k52, hM.k53, hM.k54, hM.k55, hM.k56, hM.k57, hM.k58, hM.n1, hM.n2, hM.n3, hM.n4, hM.n13, hM.n14, hM.n15, hM.n16, hM.n17, hM.n26, hM.n51, hM.n52, hM.n53, hM.n54, hM.n55, hM.n56, hM.n57, hM.n58, vrf_s, true_or, or_true, true_and, and_true, and_self, not_false_eq_true, pu_s, pu_n, z2_e0, z2_n0, z2_t, z2_f, reduceIte, c1, i1, y3, hP.1, le]
      exact k134 (w := 0) hR hW (by decide) (by decide) (fun h2 q2 hR2 => by simp only [pu_s, v219_31, v219_35]; exact ks 0 h2 rfl q2 hR2)
    · rw [if_neg g] at kn
      rw [eq_true (show sN (aS A) ≤ (aH A i).2.1 by omega)] at le
      simp only [v219_0, v219_1, v219_2, v219_5, v219_6, v219_7, v219_10, v219_11, v219_12, v219_13, v219_16, v219_17, v219_18, v219_19, v219_22, v219_25, v219_26, v219_28, v219_31, v219_34, v219_35, hM.f0, hM.f1, hM.f2, hM.f3, hM.f4, hM.f5, hM.f6, hM.f8, hM.f10, hM.f12, hM.f13, hM.f25, hM.f27, hM.f28, hM.f36, hM.f37, hM.f38, hM.f40, hM.k0, hM.k1, hM.k2, hM.k3, hM.k4, hM.k13, hM.k14, hM.k15, hM.k16, hM.k17, hM.k26, hM.k51, hM.k52, hM.k53, hM.k54, hM.k55, hM.k56, hM.k57, hM.k58, hM.n1, hM.n2, hM.n3, hM.n4, hM.n13, hM.n14, hM.n15, hM.n16, hM.n17, hM.n26, hM.n51, hM.n52, hM.n53, hM.n54, hM.n55, hM.n56, hM.n57, hM.n58, vrf_s, true_or, or_true, true_and, and_true, and_self, not_false_eq_true, pu_s, pu_n, z2_e0, z2_n0, z2_t, z2_f, reduceIte, c1, i1, y3, hP.1, le]
      exact kn rfl
  · have ne := rf_ne (w := w) (by have := rrC_lt hs; omega)
    simp only [v219_0, v219_1, v219_2, v219_5, v219_6, v219_7, v219_10, v219_11, v219_12, v219_13, v219_16, v219_17, v219_18, v219_19, v219_22, v219_25, v219_26, v219_28, v219_31, v219_34, v219_35, pu_s, pu_n, z2_e0, z2_n0, z2_t, z2_f, ne, reduceIte]
    exact ks w h2 (by unfold mrC; rw [hs]) q2 hR2
theorem k220 (hR : MR m u A h) (hW : WF A) {i : Nat} (hi : i < 8) : AM 220 [.ref m, .int (nI i)] h K = K (some (.int (oI (fwN (aH A i).2.2 (sN (aS A)) 0)))) h := by
  obtain ⟨r0, hM, hpp, hP, hQ, hS, hT, hF, hL⟩ := id hR
  have hn8 := hW.1.1
  obtain ⟨w1, w2, w3⟩ := hM.rw hi
  obtain ⟨y1, y2, y3, y4⟩ := hS i hi
  have c2 : (nI i).toNatClampNeg = i := nIc (by omega)
  have i2 : inb (nI i) 8 = True := nIb (by omega) (by omega)
  have l : ∀ (j t : Nat), t + j = sN (aS A) → V 220 2 [.ref m, .int (nI i), .int (nI t)] [] h K = K (some (.int (oI (fwN (aH A i).2.2 j t)))) h := by
    intro j
    induction j with
    | zero =>
      intro t ht
      have e : t = sN (aS A) := by omega
      subst e
      have e8 : (nI (sN (aS A)) ≤ nI (sN (aS A))) = True := eq_true (nI_le (Nat.le_refl _) (by omega))
      simp only [v220_0, v220_1, v220_2, v220_3, v220_4, v220_7, v220_10, v220_11, v220_14, v220_15, v220_16, v220_17, v220_18, v220_19, v220_22, v220_25, v220_28, v220_29, v220_30, v220_36, v220_37, hM.k0, hP.1, e8, reduceIte, true_and]
      rfl
    | succ j ih =>
      intro t ht
      have e8 : (nI (sN (aS A)) ≤ nI t) = False := eq_false (nI_ge (by omega) (by omega))
      have c1 : (nI t).toNatClampNeg = t := nIc (by omega)
      have i1 : inb (nI t) 40 = True := nIb (by omega) (by omega)
      have ee := y4 t (by omega)
      have r : fwN (aH A i).2.2 (j + 1) t = if inJ ((aH A i).2.2 t) 0 99 = true then fwN (aH A i).2.2 j (t + 1) else some t := rfl
      rw [r]
      cases gj : inJ ((aH A i).2.2 t) 0 99 with
      | false =>
        simp only [v220_0, v220_1, v220_2, v220_3, v220_4, v220_7, v220_10, v220_11, v220_14, v220_15, v220_16, v220_17, v220_18, v220_19, v220_22, v220_25, v220_28, v220_29, v220_30, v220_36, v220_37, hM.f0, hM.f1, hM.f2, hM.f3, hM.f4, hM.f5, hM.f6, hM.f8, hM.f10, hM.f12, hM.f13, hM.f25, hM.f27, hM.f28, hM.f36, hM.f37, hM.f38, hM.f40, hM.k0, hM.k1, hM.k2, hM.k3, hM.k4, hM.k13, hM.k14, hM.k15, hM.k16, hM.k17, hM.k26, hM.k51, hM.k52, hM.k53, hM.k54, hM.k55, hM.k56, hM.k57, hM.k58, hM.n1, hM.n2, hM.n3, hM.n4, hM.n13, hM.n14, hM.n15, hM.n16, hM.n17, hM.n26, hM.n51, hM.n52, hM.n53, hM.n54, hM.n55, hM.n56, hM.n57, hM.n58, vrf_s, true_or, or_true, true_and, and_true, and_self, not_false_eq_true, pu_s, pu_n, z2_e0, z2_n0, z2_t, z2_f, hP.1, e8, reduceIte, w1, w2, w3, c1, i1, c2, i2, ee, c135, gj, Bool.false_eq_true]
        rfl
      | true =>
        simp only [v220_0, v220_1, v220_2, v220_3, v220_4, v220_7, v220_10, v220_11, v220_14, v220_15, v220_16, v220_17, v220_18, v220_19, v220_22, v220_25, v220_28, v220_29, v220_30, v220_36, v220_37, hM.f0, hM.f1, hM.f2, hM.f3, hM.f4, hM.f5, hM.f6, hM.f8, hM.f10, hM.f12, hM.f13, hM.f25, hM.f27, hM.f28, hM.f36, hM.f37, hM.f38, hM.f40, hM.k0, hM.k1, hM.k2, hM.k3, hM.k4, hM.k13, hM.k14, hM.k15, hM.k16, hM.k17, hM.k26, hM.k51, hM.k52, hM.k53, hM.k54, hM.k55, hM.k56, hM.k57, hM.k58, hM.n1, hM.n2, hM.n3, hM.n4, hM.n13, hM.n14, hM.n15, hM.n16, hM.n17, hM.n26, hM.n51, hM.n52, hM.n53, hM.n54, hM.n55, hM.n56, hM.n57, hM.n58, vrf_s, true_or, or_true, true_and, and_true, and_self, not_false_eq_true, pu_s, pu_n, z2_e0, z2_n0, z2_t, z2_f, hP.1, e8, reduceIte, w1, w2, w3, c1, i1, c2, i2, ee, c135, gj, i10, nI_1]
        rw [v220_33]
        exact ih (t + 1) (by omega)
  simp only [e220, v220_0, v220_1]
  exact l (sN (aS A)) 0 (Nat.zero_add _)
theorem c222 (hX : MSh x h) (hM : MSh m h) (hP : MP x s h) (hO : SOk s) (hd : x = m ∨ m + 59 ≤ x) {i : Nat} (hi : i < 8) {mk : Nat → Nat} (hz : ∀ t, t < sN s → (gJ h (m + (5 + i)) t).toInt32 = nI (mk t)) (kk : ∀ h2, Fr (fun a _ => x + 18 ≤ a ∧ a < x + 26) h h2 → MP x (sgK s mk) h2 → K none h2) : AM 222 [.ref x, .int (nI i), .ref m] h K := by
  have hn8 := hO.1
  have hm24 := hO.2.1
  obtain ⟨p1, p2, p3, p4, p5⟩ := id hP
  have c2 : (nI i).toNatClampNeg = i := nIc (by omega)
  have i2 : inb (nI i) 8 = True := nIb (by omega) (by omega)
  have l : ∀ (j t : Nat) (h1 : Hp), t + j = sN s → Fr (fun a _ => x + 18 ≤ a ∧ a < x + 26) h h1 → (∀ w, w < sN s → ∀ k, k < 7 → gI h1 (x + (18 + w)) k = nI (if k = 5 ∧ w < t then mk w else sT s w k)) → V 222 2 [.ref x, .int (nI i), .ref m, .int (nI t)] [] h1 K := by
    intro j
    induction j with
    | zero =>
      intro t h1 ht hf hq
      have e : t = sN s := by omega
      subst e
      have k7 : gK h1 x = 7 := hf.k.trans hX.k0
      have e9 : gI h1 x 9 = nI (sN s) := (hf.i (fun z => by omega)).trans p1
      have e8 : (nI (sN s) ≤ nI (sN s)) = True := eq_true (nI_le (Nat.le_refl _) (by omega))
      simp only [v222_0, v222_1, v222_2, v222_3, v222_4, v222_7, v222_10, v222_11, v222_14, v222_15, v222_16, v222_17, v222_18, v222_21, v222_22, v222_23, v222_24, v222_25, v222_26, v222_27, v222_33, k7, e9, e8, reduceIte, true_and]
      exact kk h1 hf ⟨e9, (hf.i (fun z => by omega)).trans p2, fun w hw k hk => hq w hw k hk, fun c hc k hk => (hf.i (fun z => by have hc' : c < sM s := hc; omega)).trans (p4 c hc k hk), fun k hk => (hf.i (fun z => by omega)).trans (p5 k hk)⟩
    | succ j ih =>
      intro t h1 ht hf hq
      have hX1 : MSh x h1 := hX.fr hf (fun a j z => ⟨by omega, fun y => by omega⟩)
      have hM1 : MSh m h1 := hM.fr hf (fun a j z => ⟨by omega, fun y => by omega⟩)
      have e9 : gI h1 x 9 = nI (sN s) := (hf.i (fun z => by omega)).trans p1
      have e8 : (nI (sN s) ≤ nI t) = False := eq_false (nI_ge (by omega) (by omega))
      obtain ⟨t1, t2, t3⟩ := hX1.th (show t < 8 by omega)
      obtain ⟨w1, w2, w3⟩ := hM1.rw hi
      have c1 : (nI t).toNatClampNeg = t := nIc (by omega)
      have i1 : inb (nI t) 8 = True := nIb (by omega) (by omega)
      have i3 : inb (nI t) 40 = True := nIb (by omega) (by omega)
      have ej : (gJ h1 (m + (5 + i)) t).toInt32 = nI (mk t) := by rw [hf.j (fun z => by omega)]; exact hz t (by omega)
      simp only [v222_0, v222_1, v222_2, v222_3, v222_4, v222_7, v222_10, v222_11, v222_14, v222_15, v222_16, v222_17, v222_18, v222_21, v222_22, v222_23, v222_24, v222_25, v222_26, v222_27, v222_33, hX1.k0, hX1.f10, hX1.k17, hX1.n17, hM1.k0, hM1.f3, hM1.k4, hM1.n4, vrf_s, e9, e8, reduceIte, t1, t2, t3, w1, w2, w3, c1, i1, i3, c2, i2, ej, ib7_0, ib7_1, ib7_2, ib7_3, ib7_4, ib7_5, ib7_6, ib3_0, ib3_1, ib3_2, ib4_0, ib4_1, ib4_2, ib4_3, tc0, tc1, tc2, tc3, tc4, tc5, tc6, true_and, true_or, or_true, and_self, nI_1]
      rw [v222_30]
      refine ih (t + 1) _ (by omega) (hf.pI ⟨by omega, by omega⟩) (fun w hw k hk => ?_)
      by_cases g : w = t
      · subst g
        by_cases g2 : k = 5
        · subst g2
          rw [gI_at, if_pos ⟨rfl, by omega⟩]
        · rw [gI_ne (fun z => g2 z.2), hq w hw k hk, if_neg (fun z => g2 z.1), if_neg (fun z => g2 z.1)]
      · rw [gI_ne (by omega), hq w hw k hk]
        by_cases g2 : k = 5 ∧ w < t
        · rw [if_pos g2, if_pos ⟨g2.1, by omega⟩]
        · rw [if_neg g2, if_neg (fun z => g2 ⟨z.1, by omega⟩)]
  simp only [e222, v222_0, v222_1]
  exact l (sN s) 0 h (Nat.zero_add _) Fr.rf (fun w hw k hk => by rw [if_neg (by omega)]; exact p3 w hw k hk)
theorem k221 (hR : MR m u A h) (hW : WF A) (s : Int32) (kk : ∀ (h2 : Hp) (u2 : LU), MG m h h2 → MR m u2 (oJdg A s).1 h2 → K (some (.int (oJdg A s).2)) h2) : AM 221 [.ref m, .int s] h K := by
  obtain ⟨r0, hM, hpp, hP, hQ, hS, hT, hF, hL⟩ := id hR
  unfold oJdg at kk
  replace kk := fun h2 => kk h2 u
  simp only [e221, v221_0, v221_1, v221_2, hM.k0, true_and]
  refine k219 hR hW s (fun hn => ?_) (fun w h2 hs q2 hR2 => ?_)
  · rw [hn] at kk
    obtain ⟨hr, hsz⟩ := mrC_n hn
    obtain ⟨i, es, rfl, hi, k, hk, hk4⟩ := rrC_n hr
    have c1 : (nI i).toNatClampNeg = i := nIc (by omega)
    have f := kk h MG.rf hR
    unfold wmN at f
    rw [c1] at f
    simp only [v221_0, v221_1, v221_2, v221_5, v221_6, v221_7, v221_10, v221_11, v221_14, v221_15, v221_16, v221_19, pu_s, pu_n, z2_e0, z2_n0, z2_t, z2_f, hM.k0, reduceIte, k220 hR hW (show i < 8 by omega), true_and]
    exact f
  · rw [hs] at kk
    have ne := rf_ne (w := w) (mrC_lt hs)
    simp only [v221_0, v221_1, v221_2, v221_5, v221_6, v221_7, v221_10, v221_11, v221_14, v221_15, v221_16, v221_19, pu_s, pu_n, z2_e0, z2_n0, z2_t, z2_f, ne, reduceIte]
    exact kk h2 (MG.of q2 (fun a j z => by omega)) hR2
theorem k224 (hR : MR m u A h) (hW : WF A) (s : Int32) (kk : ∀ (h2 : Hp) (u2 : LU), MG m h h2 → MR m u2 (oMks A s).1 h2 → K (some (.int (oMks A s).2)) h2) : AM 224 [.ref m, .int s] h K := by
  obtain ⟨r0, hM, hpp, hP, hQ, hS, hT, hF, hL⟩ := id hR
  unfold oMks gmC at kk
  replace kk := fun h2 => kk h2 u
  simp only [e224, v224_0, v224_1, v224_2, hM.k0, true_and]
  refine k219 hR hW s (fun hn => ?_) (fun w h2 hs q2 hR2 => ?_)
  · rw [hn] at kk
    obtain ⟨hr, hsz⟩ := mrC_n hn
    obtain ⟨i, es, rfl, hi, k, hk, hk4⟩ := rrC_n hr
    have c1 : (nI i).toNatClampNeg = i := nIc (by omega)
    have hn8 := hW.1.1
    unfold wmN at kk
    rw [c1] at kk hsz
    obtain ⟨y1, y2, y3, y4⟩ := hS i (by omega)
    have sz := (hW.2.2.2.2 i (by omega)).1
    cases hw : fwN (aH A i).2.2 (sN (aS A)) 0 with
    | some y =>
      rw [hw] at kk
      dsimp only at kk
      have := fwN_s _ _ _ hw
      have l1 : (nI y = -1) = False := nm1 (by omega)
      simp only [v224_5, v224_6, v224_7, v224_12, v224_13, v224_14, v224_17, v224_18, v224_21, v224_22, v224_24, pu_s, pu_n, z2_e0, z2_n0, z2_t, z2_f, hM.k0, reduceIte, k220 hR hW (show i < 8 by omega), hw, oI, l1, true_and]
      exact k134 (w := 3) hR hW (by decide) (by decide) (fun h2 q2 hR2 => by simp only [pu_s, v224_27]; exact kk h2 (MG.of q2 (fun a j z => by omega)) hR2)
    | none =>
      rw [hw] at kk
      dsimp only at kk
      have hmk : ∀ t, t < sN (aS A) → ((aH A i).2.2 t).toInt32 = nI (mkE (aH A i).2.2 t) ∧ mkE (aH A i).2.2 t ≤ 99 := fun t ht => mkE_ok (fwN_n _ _ hw t (Nat.zero_le _) (by omega))
      simp only [v224_5, v224_6, v224_7, v224_12, v224_13, v224_14, v224_17, v224_18, v224_28, v224_29, v224_30, v224_31, pu_s, pu_n, z2_e0, z2_n0, z2_t, z2_f, hM.k0, reduceIte, k220 hR hW (show i < 8 by omega), hw, oI, true_and]
      refine c222 hM hM hP hW.1 (Or.inl rfl) (show i < 8 by omega) (mk := mkE (aH A i).2.2) (fun t ht => by rw [y4 t (by omega)]; exact (hmk t ht).1) (fun h2 q2 hP2 => ?_)
      have hR2 := hR.ss hW q2 (fun a j z => Or.inr (Or.inl z)) hP2
      have k7 := hR2.2.1.k0
      have e9 : gI h2 m 9 = nI (sN (aS A)) := hP2.1
      simp only [pu_n, v224_34, v224_35, v224_38, k7, e9, true_and]
      exact kk h2 (MG.of q2 (fun a j z => by omega)) hR2
  · rw [hs] at kk
    have ne := rf_ne (w := w) (mrC_lt hs)
    simp only [v224_5, v224_6, v224_7, v224_10, v224_11, pu_s, pu_n, z2_e0, z2_n0, z2_t, z2_f, ne, reduceIte]
    exact kk h2 (MG.of q2 (fun a j z => by omega)) hR2
theorem k223 (hR : MR m u A h) (hW : WF A) (s : Int32) (kk : ∀ (h2 : Hp) (u2 : LU), MG m h h2 → MR m u2 (oTld A s).1 h2 → K (some (.int (oTld A s).2)) h2) : AM 223 [.ref m, .int s] h K := by
  obtain ⟨r0, hM, hpp, hP, hQ, hS, hT, hF, hL⟩ := id hR
  unfold oTld gmC at kk
  simp only [e223, v223_0, v223_1, v223_2, hM.k0, true_and]
  refine k219 hR hW s (fun hn => ?_) (fun w h2 hs q2 hR2 => ?_)
  · rw [hn] at kk
    obtain ⟨hr, hsz⟩ := mrC_n hn
    obtain ⟨i, es, rfl, hi, k, hk, hk4⟩ := rrC_n hr
    have c1 : (nI i).toNatClampNeg = i := nIc (by omega)
    have hn8 := hW.1.1
    unfold wmN at kk
    rw [c1] at kk hsz
    have sz := (hW.2.2.2.2 i (by omega)).1
    cases hw : fwN (aH A i).2.2 (sN (aS A)) 0 with
    | some y =>
      rw [hw] at kk
      dsimp only at kk
      rw [r3m] at kk
      have := fwN_s _ _ _ hw
      have l1 : (nI y = -1) = False := nm1 (by omega)
      simp only [v223_5, v223_6, v223_7, v223_16, v223_17, v223_18, v223_21, v223_22, v223_25, v223_28, v223_29, v223_31, pu_s, pu_n, z2_e0, z2_n0, z2_t, z2_f, hM.k0, reduceIte, k220 hR hW (show i < 8 by omega), hw, oI, l1, true_and]
      exact k134 (w := 3) hR hW (by decide) (by decide) (fun h2 q2 hR2 => by simp only [pu_s, v223_34, v223_35]; exact kk h2 u (MG.of q2 (fun a j z => by omega)) hR2)
    | none =>
      rw [hw] at kk
      dsimp only at kk
      have hmk : ∀ t, t < sN (aS A) → ((aH A i).2.2 t).toInt32 = nI (mkE (aH A i).2.2 t) ∧ mkE (aH A i).2.2 t ≤ 99 := fun t ht => mkE_ok (fwN_n _ _ hw t (Nat.zero_le _) (by omega))
      simp only [v223_5, v223_6, v223_7, v223_16, v223_17, v223_18, v223_21, v223_22, v223_36, v223_37, pu_s, pu_n, z2_e0, z2_n0, z2_t, z2_f, hM.k0, reduceIte, k220 hR hW (show i < 8 by omega), hw, oI, true_and]
      refine c231 hR hW (fun h2 u2 x a1 a2 a3 a4 hR2 hu hO2 hP2 hQ2 => ?_)
      obtain ⟨r02, hM2, hpp2, hPm2, hQm2, hS2, -⟩ := id hR2
      obtain ⟨y1, y2, y3, y4⟩ := hS2 i (by omega)
      have kx := hO2.2.2.1.k0
      have hb := hO2.1
      simp only [pu_s, v223_40, v223_41, v223_42, v223_43, v223_44, kx, true_and]
      refine c222 hO2.2.2.1 hM2 hP2 hW.1 (Or.inr hb) (show i < 8 by omega) (mk := mkE (aH A i).2.2) (fun t ht => by rw [y4 t (by omega)]; exact (hmk t ht).1) (fun h3 q3 hP3 => ?_)
      have q3k : Fr (fun a j => MKW x a j) h2 h3 := q3.mo (fun a j z => Or.inr z)
      have hM3 := hO2.2.2.1.kw q3k
      have kx3 := hM3.k0
      simp only [pu_n, v223_47, v223_48, kx3, true_and]
      refine c188 hM3 hP3 (hW.1.mks (fun t ht => (hmk t ht).2)) (p0_ok _) (hO2.2.2.2.kw q3k) (fun h4 q4 hD4 => ?_)
      have q5 : Fr (fun a j => MKW x a j) h2 h4 := q3k.tr (q4.mo (fun a j z => Or.inl z))
      have hF : ∀ a j, MKW x a j → x ≤ a ∧ a < x + 59 := fun a j z => by unfold MKW DW at z; omega
      have hO4 : OB m x h4 := ⟨hb, by rw [q5.2.2.1]; exact hO2.2.1, hO2.2.2.1.kw q5, hO2.2.2.2.kw q5⟩
      simp only [pu_s, v223_51]
      exact kk h4 u2 ⟨a1.tr (Ag.of q5 (fun a j z => by have := hF a j z; omega)), by rw [q5.2.2.1]; exact a2, by rw [q5.2.2.1]; omega, by rw [q5.2.2.2.1]; omega⟩ (hR2.ob hW hb q5 hF (hR2.2.2.2.2.2.2.2.2.tried hu q5 hF hO4))
  · rw [hs] at kk
    have ne := rf_ne (w := w) (mrC_lt hs)
    simp only [v223_5, v223_6, v223_7, v223_10, v223_13, v223_14, v223_15, pu_s, pu_n, z2_e0, z2_n0, z2_t, z2_f, ne, reduceIte]
    exact kk h2 u (MG.of q2 (fun a j z => by omega)) hR2
end
