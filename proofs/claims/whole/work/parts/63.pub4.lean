/-! quick, says, on both sides -/
section
variable {b m : Nat} {u : LU} {A : XA} {h h1 : Hp} {K : Option Value → Hp → Prop}
theorem drA {k : Nat} (hk : k ≤ 5) : (if nI k = 2 then (1 : Int32) else 0) = nI (if k = 2 then 1 else 0) := by
  have : k = 0 ∨ k = 1 ∨ k = 2 ∨ k = 3 ∨ k = 4 ∨ k = 5 := by omega
  rcases this with rfl | rfl | rfl | rfl | rfl | rfl <;> decide
theorem k91_l (hC : CL b A h) {k a v : Nat} (hk : k ≤ 5) (ha : a ≤ 9) (hv : v ≤ 99) : ∀ (j w : Nat), w + j = 100 → 1 ≤ w → V 91 40 [.ref b, .int (nI k), .int (nI a), .int (nI v), .int (nI w)] [] h K = K (some (.int (qkN (fun w => payN 0 k w a (if k = 2 then 1 else 0)) v j w))) h := by
  obtain ⟨⟨cn, kb, f0, f1, f3, f4, f5, f6⟩, -⟩ := id hC
  obtain ⟨a3, y1, y2, y3, y4⟩ := cn.tb (j := 3) (by decide)
  have n3 : gN h a3 = 7 := y3
  have e3 : gI h a3 1 = nI 99 := y4 1 (by decide)
  intro j
  induction j with
  | zero =>
    intro w hw h1
    have e : w = 100 := by omega
    subst e
    have e8 : (nI 99 < nI 100) = True := eq_true (by decide)
    simp only [v91_40, v91_42, v91_45, v91_46, v91_47, v91_75, v91_76, y1, y2, n3, ib7_0, ib7_1, ib7_2, ib7_3, ib7_4, ib7_5, ib7_6, ib3_0, ib3_1, ib3_2, ib4_0, ib4_1, ib4_2, ib4_3, tc0, tc1, tc2, tc3, tc4, tc5, tc6, e3, vrf_s, e8, reduceIte, true_and, or_true, and_self]
    rfl
  | succ j ih =>
    intro w hw h1
    have e8 : (nI 99 < nI w) = False := eq_false (nI_nlt (by omega) (by decide))
    have hd : (if k = 2 then 1 else 0) ≤ 8 := by split <;> omega
    have c := fun (K : Option Value → Hp → Prop) => c132 (K := K) cn (s := 0) (k := k) (w := w) (a := a) (d := if k = 2 then 1 else 0) (by decide) (by omega) (by omega) ha hd
    have c' : ∀ K : Option Value → Hp → Prop, AM 132 [.int 0, .int (nI k), .int (nI w), .int (nI a), .int (nI (if k = 2 then 1 else 0))] h K = K (some (.int (nI (payN 0 k w a (if k = 2 then 1 else 0))))) h := c
    have pl := payN_le (s := 0) (k := k) (w := w) (a := a) (d := if k = 2 then 1 else 0) (by omega) ha hd
    have lt : (nI (payN 0 k w a (if k = 2 then 1 else 0)) < nI v) = (payN 0 k w a (if k = 2 then 1 else 0) < v) := nltN (by omega) (by omega)
    have e : qkN (fun w => payN 0 k w a (if k = 2 then 1 else 0)) v (j + 1) w = if v ≤ payN 0 k w a (if k = 2 then 1 else 0) then nI w else qkN (fun w => payN 0 k w a (if k = 2 then 1 else 0)) v j (w + 1) := rfl
    rw [e]
    by_cases g : v ≤ payN 0 k w a (if k = 2 then 1 else 0)
    · rw [if_pos g]
      have g2 : (payN 0 k w a (if k = 2 then 1 else 0) < v) = False := eq_false (by omega)
      rw [g2] at lt
      simp only [v91_40, v91_42, v91_45, v91_46, v91_47, v91_50, v91_51, v91_52, v91_54, v91_55, v91_56, v91_59, v91_62, v91_63, v91_66, v91_68, y1, y2, n3, ib7_0, ib7_1, ib7_2, ib7_3, ib7_4, ib7_5, ib7_6, ib3_0, ib3_1, ib3_2, ib4_0, ib4_1, ib4_2, ib4_3, tc0, tc1, tc2, tc3, tc4, tc5, tc6, e3, vrf_s, e8, c130, drA hk, c', lt, pu_s, reduceIte, true_and, or_true, and_self]
    · rw [if_neg g]
      have g2 : (payN 0 k w a (if k = 2 then 1 else 0) < v) = True := eq_true (by omega)
      rw [g2] at lt
      simp only [v91_40, v91_42, v91_45, v91_46, v91_47, v91_50, v91_51, v91_52, v91_54, v91_55, v91_56, v91_59, v91_62, v91_63, v91_69, y1, y2, n3, ib7_0, ib7_1, ib7_2, ib7_3, ib7_4, ib7_5, ib7_6, ib3_0, ib3_1, ib3_2, ib4_0, ib4_1, ib4_2, ib4_3, tc0, tc1, tc2, tc3, tc4, tc5, tc6, e3, vrf_s, e8, c130, drA hk, c', lt, pu_s, reduceIte, true_and, or_true, and_self, nI_1]
      rw [v91_72]
      exact ih (w + 1) (by omega) (by omega)
theorem k91 (hC : CL b A h) (hW : WF A) (k a v : Int32) (kk : ∀ h2, Fr (CW b) h h2 → CL b (oQck A k a v).1 h2 → K (some (.int (oQck A k a v).2)) h2) : AM 91 [.ref b, .int k, .int a, .int v] h K := by
  obtain ⟨⟨cn, kb, f0, f1, f3, f4, f5, f6⟩, hST, hKP, hTR, hTA, ⟨s1, s2, s3⟩, hRF⟩ := id hC
  obtain ⟨a3, y1, y2, y3, y4⟩ := cn.tb (j := 2) (by decide)
  have n3 : gN h a3 = 7 := y3
  have e3 : gI h a3 1 = nI 1 := y4 1 (by decide)
  unfold oQck at kk
  cases h0 : rgI 0 5 k with
  | none =>
    rw [h0] at kk
    simp only [v91_0, v91_1, v91_2, v91_5, v91_8, v91_9, v91_10, v91_13, v91_16, v91_17, v91_18, v91_20, v91_23, v91_26, v91_27, v91_29, v91_32, v91_33, v91_36, v91_37, v91_38, v91_40, v91_42, v91_45, v91_46, v91_47, v91_50, v91_51, v91_52, v91_54, v91_55, v91_56, v91_59, v91_62, v91_63, v91_66, v91_68, v91_69, v91_75, v91_76, e91, kb, f0, f1, f3, f4, f5, f6, vrf_s, true_and, true_or, or_true, and_self, not_false_eq_true, pu_s, pu_n, z2_e0, z2_n0, z2_t, z2_f, c124_0 cn, h0, Option.isSome_none, reduceIte]
    exact k108 (w := 0) hC hW (by decide) (by decide) (fun h2 q2 hC2 => by simp only [pu_s, v91_32]; exact kk h2 q2 hC2)
  | some k' =>
    rw [h0] at kk
    cases h1 : rgI 0 9 a with
    | none =>
      rw [h1] at kk
      simp only [v91_0, v91_1, v91_2, v91_5, v91_8, v91_9, v91_10, v91_13, v91_16, v91_17, v91_18, v91_20, v91_23, v91_26, v91_27, v91_29, v91_32, v91_33, v91_36, v91_37, v91_38, v91_40, v91_42, v91_45, v91_46, v91_47, v91_50, v91_51, v91_52, v91_54, v91_55, v91_56, v91_59, v91_62, v91_63, v91_66, v91_68, v91_69, v91_75, v91_76, e91, kb, f0, f1, f3, f4, f5, f6, vrf_s, true_and, true_or, or_true, and_self, not_false_eq_true, pu_s, pu_n, z2_e0, z2_n0, z2_t, z2_f, c124_0 cn, c124_4 cn, h0, h1, Option.isSome_some, i10, Option.isSome_none, reduceIte]
      exact k108 (w := 0) hC hW (by decide) (by decide) (fun h2 q2 hC2 => by simp only [pu_s, v91_32]; exact kk h2 q2 hC2)
    | some a' =>
      rw [h1] at kk
      cases h2 : rgI 0 99 v with
      | none =>
        rw [h2] at kk
        simp only [v91_0, v91_1, v91_2, v91_5, v91_8, v91_9, v91_10, v91_13, v91_16, v91_17, v91_18, v91_20, v91_23, v91_26, v91_27, v91_29, v91_32, v91_33, v91_36, v91_37, v91_38, v91_40, v91_42, v91_45, v91_46, v91_47, v91_50, v91_51, v91_52, v91_54, v91_55, v91_56, v91_59, v91_62, v91_63, v91_66, v91_68, v91_69, v91_75, v91_76, e91, kb, f0, f1, f3, f4, f5, f6, vrf_s, true_and, true_or, or_true, and_self, not_false_eq_true, pu_s, pu_n, z2_e0, z2_n0, z2_t, z2_f, c124_0 cn, c124_4 cn, c123, ri_0_7, ri_0_4, ri_0_40, ri_0_5, ri_1_99, ri_1_9, ri_0_99, ri_0_9, ri_0_6, ri_0_3, ri_0_255, ri_1_24, ri_3_39, ri_0_1, ri_0_8, ri_0_2, ri_1_30, ri_0_14, ri_12_16, h0, h1, h2, Option.isSome_some, i10, Option.isSome_none, reduceIte]
        exact k108 (w := 0) hC hW (by decide) (by decide) (fun h2 q2 hC2 => by simp only [pu_s, v91_32]; exact kk h2 q2 hC2)
      | some v' =>
        rw [h2] at kk
        obtain ⟨ek, -, hk⟩ := rgI_s (by decide) (by decide) h0
        obtain ⟨ea, -, ha⟩ := rgI_s (by decide) (by decide) h1
        obtain ⟨ev, -, hv⟩ := rgI_s (by decide) (by decide) h2
        simp only [e91, v91_0, v91_1, v91_2, v91_5, v91_8, v91_9, v91_10, v91_13, v91_16, v91_17, v91_18, v91_20, v91_23, v91_33, v91_36, v91_37, v91_38, kb, f0, f1, f3, f4, f5, f6, vrf_s, true_and, true_or, or_true, and_self, not_false_eq_true, pu_s, pu_n, z2_e0, z2_n0, z2_t, z2_f, c124_0 cn, c124_4 cn, c123, ri_0_7, ri_0_4, ri_0_40, ri_0_5, ri_1_99, ri_1_9, ri_0_99, ri_0_9, ri_0_6, ri_0_3, ri_0_255, ri_1_24, ri_3_39, ri_0_1, ri_0_8, ri_0_2, ri_1_30, ri_0_14, ri_12_16, h0, h1, h2, Option.isSome_some, i10, reduceIte, y1, y2, n3, ib7_0, ib7_1, ib7_2, ib7_3, ib7_4, ib7_5, ib7_6, ib3_0, ib3_1, ib3_2, ib4_0, ib4_1, ib4_2, ib4_3, tc0, tc1, tc2, tc3, tc4, tc5, tc6, e3]
        subst ek ea ev
        rw [k91_l hC hk ha hv 99 1 rfl (Nat.le_refl _)]
        exact kk h Fr.rf hC
theorem k211_l {k a v : Nat} (hk : k ≤ 5) (ha : a ≤ 9) (hv : v ≤ 99) : ∀ (j w : Nat), w + j = 100 → 1 ≤ w → V 211 46 [.ref m, .int (nI k), .int (nI a), .int (nI v), .int (nI w)] [] h K = K (some (.int (qkN (fun w => payN 0 k w a (if k = 2 then 1 else 0)) v j w))) h := by
  intro j
  induction j with
  | zero =>
    intro w hw h1
    have e : w = 100 := by omega
    subst e
    have e8 : ((99 : Int32) < nI 100) = True := eq_true (by decide)
    simp only [v211_46, v211_48, v211_50, v211_84, v211_85, e8, reduceIte]
    rfl
  | succ j ih =>
    intro w hw h1
    have e8 : ((99 : Int32) < nI w) = False := eq_false (nI_nlt (a := 99) (by omega) (by decide))
    have hd : (if k = 2 then 1 else 0) ≤ 8 := by split <;> omega
    have c : paF 0 (nI k) (nI w) (nI a) (nI (if k = 2 then 1 else 0)) = nI (payN 0 k w a (if k = 2 then 1 else 0)) := paF_N (s := 0) (k := k) (w := w) (a := a) (d := if k = 2 then 1 else 0) (by decide) (by omega) (by omega) ha hd
    have pl := payN_le (s := 0) (k := k) (w := w) (a := a) (d := if k = 2 then 1 else 0) (by omega) ha hd
    have lt : (nI (payN 0 k w a (if k = 2 then 1 else 0)) < nI v) = (payN 0 k w a (if k = 2 then 1 else 0) < v) := nltN (by omega) (by omega)
    have e : qkN (fun w => payN 0 k w a (if k = 2 then 1 else 0)) v (j + 1) w = if v ≤ payN 0 k w a (if k = 2 then 1 else 0) then nI w else qkN (fun w => payN 0 k w a (if k = 2 then 1 else 0)) v j (w + 1) := rfl
    have s1 : V 211 46 [.ref m, .int (nI k), .int (nI a), .int (nI v), .int (nI w)] [] h K = V 211 68 [.ref m, .int (nI k), .int (nI a), .int (nI v), .int (nI w)] [.int (nI (if k = 2 then 1 else 0)), .int (nI a), .int (nI w), .int (nI k), .int 0] h K := by
      have l2 : (nI k = 2) = (k = 2) := (nLit (s := k) (by omega)).2.2.1
      by_cases g : k = 2
      · simp only [v211_46, v211_48, v211_50, v211_53, v211_54, v211_55, v211_57, v211_58, v211_59, v211_60, v211_63, v211_64, v211_67, e8, reduceIte, l2, g, not_true_eq_false, n22]
        rfl
      · simp only [v211_46, v211_48, v211_50, v211_53, v211_54, v211_55, v211_57, v211_58, v211_59, v211_60, v211_63, v211_64, v211_67, e8, reduceIte, l2, g, not_false_eq_true]
        rfl
    rw [e, s1]
    by_cases g : v ≤ payN 0 k w a (if k = 2 then 1 else 0)
    · rw [if_pos g]
      have g2 : (payN 0 k w a (if k = 2 then 1 else 0) < v) = False := eq_false (by omega)
      rw [g2] at lt
      simp only [v211_68, c182, c, pu_s, v211_71, v211_72, v211_75, v211_77, lt, reduceIte]
    · rw [if_neg g]
      have g2 : (payN 0 k w a (if k = 2 then 1 else 0) < v) = True := eq_true (by omega)
      rw [g2] at lt
      simp only [v211_68, c182, c, pu_s, v211_71, v211_72, v211_78, lt, reduceIte, nI_1]
      rw [v211_81]
      exact ih (w + 1) (by omega) (by omega)
theorem k211 (hR : MR m u A h) (hW : WF A) (k a v : Int32) (kk : ∀ (h2 : Hp) (u2 : LU), MG m h h2 → MR m u2 (oQck A k a v).1 h2 → K (some (.int (oQck A k a v).2)) h2) : AM 211 [.ref m, .int k, .int a, .int v] h K := by
  obtain ⟨r0, hM, hpp, hP, hQ, hS, hT, hF, hL⟩ := id hR
  unfold oQck at kk
  replace kk := fun h2 => kk h2 u
  cases h0 : rgI 0 5 k with
  | none =>
    rw [h0] at kk
    simp only [v211_0, v211_1, v211_2, v211_3, v211_6, v211_9, v211_12, v211_13, v211_14, v211_15, v211_18, v211_21, v211_24, v211_25, v211_26, v211_27, v211_30, v211_33, v211_36, v211_37, v211_39, v211_42, v211_43, v211_44, v211_46, v211_48, v211_50, v211_53, v211_54, v211_55, v211_57, v211_58, v211_59, v211_60, v211_63, v211_64, v211_67, v211_68, v211_71, v211_72, v211_75, v211_77, v211_78, v211_84, v211_85, e211, hM.f0, hM.f1, hM.f2, hM.f3, hM.f4, hM.f5, hM.f6, hM.f8, hM.f10, hM.f12, hM.f13, hM.f25, hM.f27, hM.f28, hM.f36, hM.f37, hM.f38, hM.f40, hM.k0, hM.k1, hM.k2, hM.k3, hM.k4, hM.k13, hM.k14, hM.k15, hM.k16, hM.k17, hM.k26, hM.k51, hM.k52, hM.k53, hM.k54, hM.k55, hM.k56, hM.k57, hM.k58, hM.n1, hM.n2, hM.n3, hM.n4, hM.n13, hM.n14, hM.n15, hM.n16, hM.n17, hM.n26, hM.n51, hM.n52, hM.n53, hM.n54, hM.n55, hM.n56, hM.n57, hM.n58, vrf_s, true_or, or_true, true_and, and_true, and_self, not_false_eq_true, pu_s, pu_n, z2_e0, z2_n0, z2_t, z2_f, c135, rj_0_7, rj_0_4, rj_0_40, rj_0_5, rj_1_99, rj_1_9, rj_0_99, rj_0_9, rj_0_6, rj_0_3, rj_0_255, rj_1_24, rj_3_39, rj_0_1, rj_0_8, rj_0_2, rj_1_30, rj_0_14, rj_12_16, h0, Option.isSome_none, reduceIte]
    exact k134 (w := 0) hR hW (by decide) (by decide) (fun h2 q2 hR2 => by simp only [pu_s, v211_42]; exact kk h2 (MG.of q2 (fun a j z => by omega)) hR2)
  | some k' =>
    rw [h0] at kk
    cases h1 : rgI 0 9 a with
    | none =>
      rw [h1] at kk
      simp only [v211_0, v211_1, v211_2, v211_3, v211_6, v211_9, v211_12, v211_13, v211_14, v211_15, v211_18, v211_21, v211_24, v211_25, v211_26, v211_27, v211_30, v211_33, v211_36, v211_37, v211_39, v211_42, v211_43, v211_44, v211_46, v211_48, v211_50, v211_53, v211_54, v211_55, v211_57, v211_58, v211_59, v211_60, v211_63, v211_64, v211_67, v211_68, v211_71, v211_72, v211_75, v211_77, v211_78, v211_84, v211_85, e211, hM.f0, hM.f1, hM.f2, hM.f3, hM.f4, hM.f5, hM.f6, hM.f8, hM.f10, hM.f12, hM.f13, hM.f25, hM.f27, hM.f28, hM.f36, hM.f37, hM.f38, hM.f40, hM.k0, hM.k1, hM.k2, hM.k3, hM.k4, hM.k13, hM.k14, hM.k15, hM.k16, hM.k17, hM.k26, hM.k51, hM.k52, hM.k53, hM.k54, hM.k55, hM.k56, hM.k57, hM.k58, hM.n1, hM.n2, hM.n3, hM.n4, hM.n13, hM.n14, hM.n15, hM.n16, hM.n17, hM.n26, hM.n51, hM.n52, hM.n53, hM.n54, hM.n55, hM.n56, hM.n57, hM.n58, vrf_s, true_or, or_true, true_and, and_true, and_self, not_false_eq_true, pu_s, pu_n, z2_e0, z2_n0, z2_t, z2_f, c135, rj_0_7, rj_0_4, rj_0_40, rj_0_5, rj_1_99, rj_1_9, rj_0_99, rj_0_9, rj_0_6, rj_0_3, rj_0_255, rj_1_24, rj_3_39, rj_0_1, rj_0_8, rj_0_2, rj_1_30, rj_0_14, rj_12_16, h0, h1, Option.isSome_some, i10, Option.isSome_none, reduceIte]
      exact k134 (w := 0) hR hW (by decide) (by decide) (fun h2 q2 hR2 => by simp only [pu_s, v211_42]; exact kk h2 (MG.of q2 (fun a j z => by omega)) hR2)
    | some a' =>
      rw [h1] at kk
      cases h2 : rgI 0 99 v with
      | none =>
        rw [h2] at kk
        simp only [v211_0, v211_1, v211_2, v211_3, v211_6, v211_9, v211_12, v211_13, v211_14, v211_15, v211_18, v211_21, v211_24, v211_25, v211_26, v211_27, v211_30, v211_33, v211_36, v211_37, v211_39, v211_42, v211_43, v211_44, v211_46, v211_48, v211_50, v211_53, v211_54, v211_55, v211_57, v211_58, v211_59, v211_60, v211_63, v211_64, v211_67, v211_68, v211_71, v211_72, v211_75, v211_77, v211_78, v211_84, v211_85, e211, hM.f0, hM.f1, hM.f2, hM.f3, hM.f4, hM.f5, hM.f6, hM.f8, hM.f10, hM.f12, hM.f13, hM.f25, hM.f27, hM.f28, hM.f36, hM.f37, hM.f38, hM.f40, hM.k0, hM.k1, hM.k2, hM.k3, hM.k4, hM.k13, hM.k14, hM.k15, hM.k16, hM.k17, hM.k26, hM.k51, hM.k52, hM.k53, hM.k54, hM.k55, hM.k56, hM.k57, hM.k58, hM.n1, hM.n2, hM.n3, hM.n4, hM.n13, hM.n14, hM.n15, hM.n16, hM.n17, hM.n26, hM.n51, hM.n52, hM.n53, hM.n54, hM.n55, hM.n56, hM.n57, hM.n58, vrf_s, true_or, or_true, true_and, and_true, and_self, not_false_eq_true, pu_s, pu_n, z2_e0, z2_n0, z2_t, z2_f, c135, rj_0_7, rj_0_4, rj_0_40, rj_0_5, rj_1_99, rj_1_9, rj_0_99, rj_0_9, rj_0_6, rj_0_3, rj_0_255, rj_1_24, rj_3_39, rj_0_1, rj_0_8, rj_0_2, rj_1_30, rj_0_14, rj_12_16, h0, h1, h2, Option.isSome_some, i10, Option.isSome_none, reduceIte]
        exact k134 (w := 0) hR hW (by decide) (by decide) (fun h2 q2 hR2 => by simp only [pu_s, v211_42]; exact kk h2 (MG.of q2 (fun a j z => by omega)) hR2)
      | some v' =>
        rw [h2] at kk
        obtain ⟨ek, -, hk⟩ := rgI_s (by decide) (by decide) h0
        obtain ⟨ea, -, ha⟩ := rgI_s (by decide) (by decide) h1
        obtain ⟨ev, -, hv⟩ := rgI_s (by decide) (by decide) h2
        simp only [e211, v211_0, v211_1, v211_2, v211_3, v211_6, v211_9, v211_12, v211_13, v211_14, v211_15, v211_18, v211_21, v211_24, v211_25, v211_26, v211_27, v211_30, v211_33, v211_43, v211_44, pu_s, pu_n, z2_e0, z2_n0, z2_t, z2_f, c135, rj_0_7, rj_0_4, rj_0_40, rj_0_5, rj_1_99, rj_1_9, rj_0_99, rj_0_9, rj_0_6, rj_0_3, rj_0_255, rj_1_24, rj_3_39, rj_0_1, rj_0_8, rj_0_2, rj_1_30, rj_0_14, rj_12_16, h0, h1, h2, Option.isSome_some, i10, reduceIte]
        subst ek ea ev
        show V 211 46 [.ref m, .int (nI k'), .int (nI a'), .int (nI v'), .int (nI 1)] [] h K
        rw [k211_l hk ha hv 99 1 rfl (Nat.le_refl _)]
        exact kk h MG.rf hR
theorem c146 {k a : Nat} (hk : k < 6) (ha : a < 6) : AM 146 [.int (nI k), .int (nI a)] h K = K (some (.int (z2 (und k a)))) h := by
  have hk' : k = 0 ∨ k = 1 ∨ k = 2 ∨ k = 3 ∨ k = 4 ∨ k = 5 := by omega
  have ha' : a = 0 ∨ a = 1 ∨ a = 2 ∨ a = 3 ∨ a = 4 ∨ a = 5 := by omega
  obtain ⟨a0, a1, a2, a3, a4, a5, -⟩ := nLit (s := a) (by omega)
  obtain ⟨b0, b1, b2, b3, b4, b5, -⟩ := nLit (s := k) (by omega)
  have e : (nI k = nI a) = (k = a) := neqN (by omega) (by omega)
  simp only [v146_0, v146_1, v146_4, v146_5, v146_6, v146_9, v146_10, v146_11, v146_12, v146_13, v146_16, v146_17, v146_18, v146_21, v146_22, v146_25, v146_26, v146_29, v146_30, v146_31, v146_34, v146_35, v146_36, v146_39, v146_40, v146_43, v146_44, e146, a0, a1, a3, b4, b5, e, bo_0, bo_1, true_and]
  rcases hk' with rfl | rfl | rfl | rfl | rfl | rfl <;> rcases ha' with rfl | rfl | rfl | rfl | rfl | rfl <;> rfl
theorem k60 (hC : CL b A h) (hW : WF A) (s k : Int32) (kk : ∀ h2, Fr (CW b) h h2 → CL b (oSay A s k).1 h2 → K (some (.int (oSay A s k).2)) h2) : AM 60 [.ref b, .int s, .int k] h K := by
  obtain ⟨⟨cn, kb, f0, f1, f3, f4, f5, f6⟩, hST, hKP, hTR, hTA, ⟨s1, s2, s3⟩, hRF⟩ := id hC
  unfold oSay at kk
  cases h0 : rgI 0 7 s with
  | none =>
    rw [h0] at kk
    simp only [v60_0, v60_1, v60_2, v60_5, v60_8, v60_9, v60_10, v60_11, v60_14, v60_17, v60_18, v60_20, v60_23, v60_24, v60_25, v60_28, v60_29, v60_30, v60_33, v60_36, v60_37, v60_39, v60_42, v60_43, v60_44, v60_47, v60_48, v60_49, v60_52, v60_54, v60_55, v60_56, v60_57, v60_58, v60_61, v60_64, v60_65, v60_68, v60_71, v60_72, v60_73, v60_74, v60_75, v60_76, v60_79, v60_82, v60_83, v60_85, v60_88, v60_89, v60_90, v60_91, v60_94, v60_97, v60_98, v60_99, v60_102, e60, kb, f0, f1, f3, f4, f5, f6, vrf_s, true_and, true_or, or_true, and_self, not_false_eq_true, pu_s, pu_n, z2_e0, z2_n0, z2_t, z2_f, k110 hC, h0, Option.isSome_none, reduceIte]
    exact k108 (w := 0) hC hW (by decide) (by decide) (fun h2 q2 hC2 => by simp only [pu_s, v60_23]; exact kk h2 q2 hC2)
  | some i =>
    rw [h0] at kk
    obtain ⟨rfl, -, hi⟩ := rgI_s (by decide) (by decide) h0
    cases h1 : rgI 0 5 k with
    | none =>
      rw [h1] at kk
      simp only [v60_0, v60_1, v60_2, v60_5, v60_8, v60_9, v60_10, v60_11, v60_14, v60_17, v60_18, v60_20, v60_23, v60_24, v60_25, v60_28, v60_29, v60_30, v60_33, v60_36, v60_37, v60_39, v60_42, v60_43, v60_44, v60_47, v60_48, v60_49, v60_52, v60_54, v60_55, v60_56, v60_57, v60_58, v60_61, v60_64, v60_65, v60_68, v60_71, v60_72, v60_73, v60_74, v60_75, v60_76, v60_79, v60_82, v60_83, v60_85, v60_88, v60_89, v60_90, v60_91, v60_94, v60_97, v60_98, v60_99, v60_102, e60, kb, f0, f1, f3, f4, f5, f6, vrf_s, true_and, true_or, or_true, and_self, not_false_eq_true, pu_s, pu_n, z2_e0, z2_n0, z2_t, z2_f, k110 hC, h0, Option.isSome_some, i10, c123, ri_0_7, ri_0_4, ri_0_40, ri_0_5, ri_1_99, ri_1_9, ri_0_99, ri_0_9, ri_0_6, ri_0_3, ri_0_255, ri_1_24, ri_3_39, ri_0_1, ri_0_8, ri_0_2, ri_1_30, ri_0_14, ri_12_16, h1, Option.isSome_none, reduceIte]
      exact k108 (w := 0) hC hW (by decide) (by decide) (fun h2 q2 hC2 => by simp only [pu_s, v60_23]; exact kk h2 q2 hC2)
    | some k' =>
      rw [h1] at kk
      dsimp only at kk
      obtain ⟨rfl, -, hk⟩ := rgI_s (by decide) (by decide) h1
      obtain ⟨x1, x2, x3, x4, x5, x6, x7, x8⟩ := s3 i (by omega)
      have c1 : (nI i).toNatClampNeg = i := nIc (by omega)
      have i1 : inb (nI i) 8 = True := nIb (by omega) (by omega)
      have hb := SHC.bd hW (show i < 8 by omega)
      have c14' := fun K => c14 (K := K) x2 x6 hb
      cases ho : (aH A i).1 with
      | none =>
        rw [ho] at kk c14'
        simp only [v60_0, v60_1, v60_2, v60_5, v60_8, v60_9, v60_10, v60_11, v60_14, v60_17, v60_18, v60_20, v60_23, v60_24, v60_25, v60_28, v60_29, v60_30, v60_33, v60_36, v60_37, v60_39, v60_42, v60_43, v60_44, v60_47, v60_48, v60_49, v60_52, v60_54, v60_55, v60_56, v60_57, v60_58, v60_61, v60_64, v60_65, v60_68, v60_71, v60_72, v60_73, v60_74, v60_75, v60_76, v60_79, v60_82, v60_83, v60_85, v60_88, v60_89, v60_90, v60_91, v60_94, v60_97, v60_98, v60_99, v60_102, e60, kb, f0, f1, f3, f4, f5, f6, vrf_s, true_and, true_or, or_true, and_self, not_false_eq_true, pu_s, pu_n, z2_e0, z2_n0, z2_t, z2_f, k110 hC, h0, Option.isSome_some, i10, c123, ri_0_7, ri_0_4, ri_0_40, ri_0_5, ri_1_99, ri_1_9, ri_0_99, ri_0_9, ri_0_6, ri_0_3, ri_0_255, ri_1_24, ri_3_39, ri_0_1, ri_0_8, ri_0_2, ri_1_30, ri_0_14, ri_12_16, h1, reduceIte, s1, s2, c1, i1, x1, x2, c14', Option.isNone_none]
        exact k108 (w := 2) hC hW (by decide) (by decide) (fun h2 q2 hC2 => by simp only [pu_s, v60_42]; exact kk h2 q2 hC2)
      | some x =>
        rw [ho] at kk c14' x6
        dsimp only at kk
        have hx := (hW.2.2.2.2 i (by omega)).2 x ho
        have hn8 := hW.1.1
        have x6' : gI h (b + 122 + 2 * i) 0 = nI x := x6
        by_cases g : 10 ≤ x
        · have sb : nI x - 10 = nI (x - 10) := nS10' g
          have ht : x - 10 < sN (aS A) := by omega
          have tk := thI_k ht (show sN (aS A) ≤ 1000000 by omega)
          obtain ⟨ρ, β, hQ, hV, hO, -⟩ := id hST
          obtain ⟨y1, y2, y3, y4, y5, y6, y7, y8, y9, y10, -⟩ := id hQ
          obtain ⟨u1, u2, u3, u4, u5⟩ := hQ.th (show x - 10 < 8 by omega)
          have c2 : (nI (x - 10)).toNatClampNeg = x - 10 := nIc (by omega)
          have i2 : inb (nI (x - 10)) 8 = True := nIb (by omega) (by omega)
          have e0 := hV.t ht (k := 0) (by omega)
          have e1 := hV.t ht (k := 1) (by omega)
          have e4 := hV.t ht (k := 4) (by omega)
          obtain ⟨b0, -, b1, -, -, -, b4, -, -⟩ := hO.2.2.1 (x - 10) ht
          have cu := fun (K : Option Value → Hp → Prop) => c129 (K := K) cn (k := sT (aS A) (x - 10) 0) (a := k') (by omega) (by omega)
          cases hu : und (sT (aS A) (x - 10) 0) k' with
          | false =>
            rw [hu] at kk cu
            rw [if_neg (fun z => by cases z.2)] at kk
            simp only [v60_0, v60_1, v60_2, v60_5, v60_8, v60_9, v60_10, v60_11, v60_14, v60_17, v60_18, v60_20, v60_23, v60_24, v60_25, v60_28, v60_29, v60_30, v60_33, v60_36, v60_37, v60_39, v60_42, v60_43, v60_44, v60_47, v60_48, v60_49, v60_52, v60_54, v60_55, v60_56, v60_57, v60_58, v60_61, v60_64, v60_65, v60_68, v60_71, v60_72, v60_73, v60_74, v60_75, v60_76, v60_79, v60_82, v60_83, v60_85, v60_88, v60_89, v60_90, v60_91, v60_94, v60_97, v60_98, v60_99, v60_102, e60, kb, f0, f1, f3, f4, f5, f6, vrf_s, true_and, true_or, or_true, and_self, not_false_eq_true, pu_s, pu_n, z2_e0, z2_n0, z2_t, z2_f, k110 hC, h0, Option.isSome_some, i10, c123, ri_0_7, ri_0_4, ri_0_40, ri_0_5, ri_1_99, ri_1_9, ri_0_99, ri_0_9, ri_0_6, ri_0_3, ri_0_255, ri_1_24, ri_3_39, ri_0_1, ri_0_8, ri_0_2, ri_1_30, ri_0_14, ri_12_16, h1, reduceIte, s1, s2, c1, i1, x1, x2, c14', Option.isNone_some, x6', sb, k111 hC hW, tk, y1, y2, y5, y6, u1, u2, u3, c2, i2, ib7_0, ib7_1, ib7_2, ib7_3, ib7_4, ib7_5, ib7_6, ib3_0, ib3_1, ib3_2, ib4_0, ib4_1, ib4_2, ib4_3, tc0, tc1, tc2, tc3, tc4, tc5, tc6, e0, cu]
            exact k108 (w := 1) hC hW (by decide) (by decide) (fun h2 q2 hC2 => by simp only [pu_s, v60_88]; exact kk h2 q2 hC2)
          | true =>
            rw [hu] at kk cu
            rw [if_pos ⟨g, rfl⟩] at kk
            have d0 : k' ≠ 0 → k' ≠ 2 → sT (aS A) (x - 10) 0 ≠ 2 := fun q0 q2 q => by
              unfold und at hu
              have := of_decide_eq_true hu
              omega
            have hs : AM 131 [.int (nI k'), .ref (ρ (x - 10))] h (fun r h1 => V 60 102 [.ref b, .int (nI i), .int (nI k'), .int (nI (x - 10))] (pu r []) h1 K) := by
              obtain ⟨l0, l1, l2, l3, l4, l5, -⟩ := nLit (s := k') (by omega)
              have u13 : ∀ K : Option Value → Hp → Prop, AM 129 [.int (nI k'), .int 1] h K = K (some (.int (z2 (und k' 1)))) h := fun K => c129_1 cn (by omega)
              by_cases g0 : k' = 0
              · simp only [v131_0, v131_1, v131_4, v131_5, v131_6, v131_7, v131_8, v131_9, v131_10, v131_13, v131_14, v131_15, v131_16, v131_17, v131_20, v131_23, v131_24, v131_27, v131_28, v131_29, v131_30, v131_31, v131_32, v131_33, v131_34, v131_35, v131_36, v131_37, v131_38, v131_39, v131_40, v131_41, v131_42, v131_45, v131_48, e131, l0, g0, reduceIte, not_true_eq_false, u2, u3, ib7_0, ib7_1, ib7_2, ib7_3, ib7_4, ib7_5, ib7_6, ib3_0, ib3_1, ib3_2, ib4_0, ib4_1, ib4_2, ib4_3, tc0, tc1, tc2, tc3, tc4, tc5, tc6, e1, true_and, true_or, and_self, pu_s, v60_102, (show (nI 0 = 0) = True from eq_true rfl)]
                have := kk h Fr.rf hC
                unfold syN at this
                rw [if_pos g0] at this
                exact this
              · by_cases g2 : k' = 2
                · simp only [v131_0, v131_1, v131_4, v131_5, v131_6, v131_7, v131_8, v131_9, v131_10, v131_13, v131_14, v131_15, v131_16, v131_17, v131_20, v131_23, v131_24, v131_27, v131_28, v131_29, v131_30, v131_31, v131_32, v131_33, v131_34, v131_35, v131_36, v131_37, v131_38, v131_39, v131_40, v131_41, v131_42, v131_45, v131_48, e131, l0, l2, g0, g2, reduceIte, not_true_eq_false, not_false_eq_true, n22, l20, q20, pu_s, v60_102]
                  have := kk h Fr.rf hC
                  unfold syN at this
                  rw [if_neg g0, if_pos g2] at this
                  exact this
                · have hd := d0 g0 g2
                  have hdr : (if nI (sT (aS A) (x - 10) 0) = 2 then (1 : Int32) else 0) = 0 := by
                    rw [drA b0, if_neg hd]
                    rfl
                  have p0 : ∀ (K : Option Value → Hp → Prop), AM 132 [.int 0, .int (nI (sT (aS A) (x - 10) 0)), .int (nI (sT (aS A) (x - 10) 1)), .int (nI (sT (aS A) (x - 10) 4)), .int 0] h K = K (some (.int (nI (payN 0 (sT (aS A) (x - 10) 0) (sT (aS A) (x - 10) 1) (sT (aS A) (x - 10) 4) 0)))) h := fun K => c132 cn (s := 0) (d := 0) (by decide) (by omega) b1 b4 (by decide)
                  have p1 : ∀ (K : Option Value → Hp → Prop), AM 132 [.int 1, .int (nI (sT (aS A) (x - 10) 0)), .int (nI (sT (aS A) (x - 10) 1)), .int (nI (sT (aS A) (x - 10) 4)), .int 0] h K = K (some (.int (nI (payN 1 (sT (aS A) (x - 10) 0) (sT (aS A) (x - 10) 1) (sT (aS A) (x - 10) 4) 0)))) h := fun K => c132 cn (s := 1) (d := 0) (by decide) (by omega) b1 b4 (by decide)
                  have hsy := kk h Fr.rf hC
                  unfold syN at hsy
                  rw [if_neg g0, if_neg g2] at hsy
                  by_cases g14 : k' = 1 ∨ k' = 4
                  · rw [if_pos g14] at hsy
                    have e14 : und k' 1 = true := by unfold und; exact decide_eq_true (by omega)
                    simp only [v131_0, v131_1, v131_4, v131_5, v131_6, v131_7, v131_8, v131_9, v131_10, v131_13, v131_14, v131_15, v131_16, v131_17, v131_20, v131_23, v131_24, v131_27, v131_28, v131_29, v131_30, v131_31, v131_32, v131_33, v131_34, v131_35, v131_36, v131_37, v131_38, v131_39, v131_40, v131_41, v131_42, v131_45, v131_48, e131, l0, l2, g0, g2, reduceIte, not_false_eq_true, u13, e14, z2_t, i10, u2, u3, ib7_0, ib7_1, ib7_2, ib7_3, ib7_4, ib7_5, ib7_6, ib3_0, ib3_1, ib3_2, ib4_0, ib4_1, ib4_2, ib4_3, tc0, tc1, tc2, tc3, tc4, tc5, tc6, e0, e1, e4, c130, hdr, p0, pu_s, v60_102, true_and, true_or, and_self]
                    exact hsy
                  · rw [if_neg g14] at hsy
                    have e14 : und k' 1 = false := by unfold und; exact decide_eq_false (by omega)
                    simp only [v131_0, v131_1, v131_4, v131_5, v131_6, v131_7, v131_8, v131_9, v131_10, v131_13, v131_14, v131_15, v131_16, v131_17, v131_20, v131_23, v131_24, v131_27, v131_28, v131_29, v131_30, v131_31, v131_32, v131_33, v131_34, v131_35, v131_36, v131_37, v131_38, v131_39, v131_40, v131_41, v131_42, v131_45, v131_48, e131, l0, l2, g0, g2, reduceIte, not_false_eq_true, u13, e14, z2_f, u2, u3, ib7_0, ib7_1, ib7_2, ib7_3, ib7_4, ib7_5, ib7_6, ib3_0, ib3_1, ib3_2, ib4_0, ib4_1, ib4_2, ib4_3, tc0, tc1, tc2, tc3, tc4, tc5, tc6, e0, e1, e4, c130, hdr, p1, pu_s, v60_102, true_and, true_or, and_self]
                    exact hsy
            simp only [v60_0, v60_1, v60_2, v60_5, v60_8, v60_9, v60_10, v60_11, v60_14, v60_17, v60_18, v60_20, v60_23, v60_24, v60_25, v60_28, v60_29, v60_30, v60_33, v60_36, v60_37, v60_39, v60_42, v60_43, v60_44, v60_47, v60_48, v60_49, v60_52, v60_54, v60_55, v60_56, v60_57, v60_58, v60_61, v60_64, v60_65, v60_68, v60_71, v60_72, v60_73, v60_74, v60_75, v60_76, v60_79, v60_82, v60_83, v60_85, v60_88, v60_89, v60_90, v60_91, v60_94, v60_97, v60_98, v60_99, v60_102, e60, kb, f0, f1, f3, f4, f5, f6, vrf_s, true_and, true_or, or_true, and_self, not_false_eq_true, pu_s, pu_n, z2_e0, z2_n0, z2_t, z2_f, k110 hC, h0, Option.isSome_some, i10, c123, ri_0_7, ri_0_4, ri_0_40, ri_0_5, ri_1_99, ri_1_9, ri_0_99, ri_0_9, ri_0_6, ri_0_3, ri_0_255, ri_1_24, ri_3_39, ri_0_1, ri_0_8, ri_0_2, ri_1_30, ri_0_14, ri_12_16, h1, reduceIte, s1, s2, c1, i1, x1, x2, c14', Option.isNone_some, x6', sb, k111 hC hW, tk, y1, y2, y5, y6, u1, u2, u3, c2, i2, ib7_0, ib7_1, ib7_2, ib7_3, ib7_4, ib7_5, ib7_6, ib3_0, ib3_1, ib3_2, ib4_0, ib4_1, ib4_2, ib4_3, tc0, tc1, tc2, tc3, tc4, tc5, tc6, e0, cu]
            exact hs
        · rw [if_neg (fun z => g z.1)] at kk
          have tn : thI (sN (aS A)) (nI x - 10) = none := by
            cases q : thI (sN (aS A)) (nI x - 10) with
            | none => rfl
            | some y =>
              exfalso
              obtain ⟨q1, q2⟩ := thI_s (by omega) q
              have l := sub_lt0 (a := x) (c := 10) (by omega) (by decide)
              rw [show nI 10 = 10 from rfl, q1] at l
              have := nlt0 (a := y) (by omega)
              rw [this] at l
              have : x < 10 := by omega
              rw [eq_true this] at l
              exact (l.symm ▸ trivial : False)
          simp only [v60_0, v60_1, v60_2, v60_5, v60_8, v60_9, v60_10, v60_11, v60_14, v60_17, v60_18, v60_20, v60_23, v60_24, v60_25, v60_28, v60_29, v60_30, v60_33, v60_36, v60_37, v60_39, v60_42, v60_43, v60_44, v60_47, v60_48, v60_49, v60_52, v60_54, v60_55, v60_56, v60_57, v60_58, v60_61, v60_64, v60_65, v60_68, v60_71, v60_72, v60_73, v60_74, v60_75, v60_76, v60_79, v60_82, v60_83, v60_85, v60_88, v60_89, v60_90, v60_91, v60_94, v60_97, v60_98, v60_99, v60_102, e60, kb, f0, f1, f3, f4, f5, f6, vrf_s, true_and, true_or, or_true, and_self, not_false_eq_true, pu_s, pu_n, z2_e0, z2_n0, z2_t, z2_f, k110 hC, h0, Option.isSome_some, i10, c123, ri_0_7, ri_0_4, ri_0_40, ri_0_5, ri_1_99, ri_1_9, ri_0_99, ri_0_9, ri_0_6, ri_0_3, ri_0_255, ri_1_24, ri_3_39, ri_0_1, ri_0_8, ri_0_2, ri_1_30, ri_0_14, ri_12_16, h1, reduceIte, s1, s2, c1, i1, x1, x2, c14', Option.isNone_some, x6', k111 hC hW, tn, Option.isSome_none]
          exact k108 (w := 1) hC hW (by decide) (by decide) (fun h2 q2 hC2 => by simp only [pu_s, v60_88]; exact kk h2 q2 hC2)
theorem k147 (hR : MR m u A h) (hW : WF A) (s k : Int32) (kk : ∀ (h2 : Hp) (u2 : LU), MG m h h2 → MR m u2 (oSay A s k).1 h2 → K (some (.int (oSay A s k).2)) h2) : AM 147 [.ref m, .int s, .int k] h K := by
  obtain ⟨r0, hM, hpp, hP, hQ, hS, hT, hF, hL⟩ := id hR
  unfold oSay at kk
  replace kk := fun h2 => kk h2 u
  cases h0 : rgI 0 7 s with
  | none =>
    rw [h0] at kk
    simp only [v147_0, v147_1, v147_2, v147_3, v147_6, v147_9, v147_12, v147_13, v147_14, v147_15, v147_18, v147_21, v147_24, v147_25, v147_27, v147_30, v147_31, v147_32, v147_35, v147_36, v147_37, v147_38, v147_41, v147_42, v147_45, v147_46, v147_47, v147_48, v147_51, v147_52, v147_55, v147_56, v147_59, v147_60, v147_61, v147_62, v147_63, v147_64, v147_65, v147_68, v147_71, v147_72, v147_74, v147_77, v147_78, v147_79, v147_82, v147_83, v147_84, v147_87, v147_88, v147_90, v147_93, v147_94, v147_95, v147_98, v147_99, v147_102, v147_103, v147_104, v147_105, v147_106, v147_107_0, v147_107_1, v147_107_2, v147_107_3, v147_107_4, v147_107_d, v147_140, v147_141, v147_142, v147_143, v147_144, v147_145, v147_146, v147_147, v147_148, v147_149, v147_150, v147_151, v147_152, v147_153, v147_154, v147_155, v147_156, v147_157, v147_160, v147_161, v147_162, v147_163, v147_164, v147_165, v147_166, v147_167, v147_168, v147_169, v147_170, v147_171, v147_172, v147_175, e147, hM.f0, hM.f1, hM.f2, hM.f3, hM.f4, hM.f5, hM.f6, hM.f8, hM.f10, hM.f12, hM.f13, hM.f25, hM.f27, hM.f28, hM.f36, hM.f37, hM.f38, hM.f40, hM.k0, hM.k1, hM.k2, hM.k3, hM.k4, hM.k13, hM.k14, hM.k15, hM.k16, hM.k17, hM.k26, hM.k51, hM.k52, hM.k53, hM.k54, hM.k55, hM.k56, hM.k57, hM.k58, hM.n1, hM.n2, hM.n3, hM.n4, hM.n13, hM.n14, hM.n15, hM.n16, hM.n17, hM.n26, hM.n51, hM.n52, hM.n53, hM.n54, hM.n55, hM.n56, hM.n57, hM.n58, vrf_s, true_or, or_true, true_and, and_true, and_self, not_false_eq_true, pu_s, pu_n, z2_e0, z2_n0, z2_t, z2_f, c135, rj_0_7, rj_0_4, rj_0_40, rj_0_5, rj_1_99, rj_1_9, rj_0_99, rj_0_9, rj_0_6, rj_0_3, rj_0_255, rj_1_24, rj_3_39, rj_0_1, rj_0_8, rj_0_2, rj_1_30, rj_0_14, rj_12_16, h0, Option.isSome_none, reduceIte]
    exact k134 (w := 0) hR hW (by decide) (by decide) (fun h2 q2 hR2 => by simp only [pu_s, v147_30]; exact kk h2 (MG.of q2 (fun a j z => by omega)) hR2)
  | some i =>
    rw [h0] at kk
    obtain ⟨rfl, -, hi⟩ := rgI_s (by decide) (by decide) h0
    cases h1 : rgI 0 5 k with
    | none =>
      rw [h1] at kk
      simp only [v147_0, v147_1, v147_2, v147_3, v147_6, v147_9, v147_12, v147_13, v147_14, v147_15, v147_18, v147_21, v147_24, v147_25, v147_27, v147_30, v147_31, v147_32, v147_35, v147_36, v147_37, v147_38, v147_41, v147_42, v147_45, v147_46, v147_47, v147_48, v147_51, v147_52, v147_55, v147_56, v147_59, v147_60, v147_61, v147_62, v147_63, v147_64, v147_65, v147_68, v147_71, v147_72, v147_74, v147_77, v147_78, v147_79, v147_82, v147_83, v147_84, v147_87, v147_88, v147_90, v147_93, v147_94, v147_95, v147_98, v147_99, v147_102, v147_103, v147_104, v147_105, v147_106, v147_107_0, v147_107_1, v147_107_2, v147_107_3, v147_107_4, v147_107_d, v147_140, v147_141, v147_142, v147_143, v147_144, v147_145, v147_146, v147_147, v147_148, v147_149, v147_150, v147_151, v147_152, v147_153, v147_154, v147_155, v147_156, v147_157, v147_160, v147_161, v147_162, v147_163, v147_164, v147_165, v147_166, v147_167, v147_168, v147_169, v147_170, v147_171, v147_172, v147_175, e147, hM.f0, hM.f1, hM.f2, hM.f3, hM.f4, hM.f5, hM.f6, hM.f8, hM.f10, hM.f12, hM.f13, hM.f25, hM.f27, hM.f28, hM.f36, hM.f37, hM.f38, hM.f40, hM.k0, hM.k1, hM.k2, hM.k3, hM.k4, hM.k13, hM.k14, hM.k15, hM.k16, hM.k17, hM.k26, hM.k51, hM.k52, hM.k53, hM.k54, hM.k55, hM.k56, hM.k57, hM.k58, hM.n1, hM.n2, hM.n3, hM.n4, hM.n13, hM.n14, hM.n15, hM.n16, hM.n17, hM.n26, hM.n51, hM.n52, hM.n53, hM.n54, hM.n55, hM.n56, hM.n57, hM.n58, vrf_s, true_or, or_true, true_and, and_true, and_self, not_false_eq_true, pu_s, pu_n, z2_e0, z2_n0, z2_t, z2_f, c135, rj_0_7, rj_0_4, rj_0_40, rj_0_5, rj_1_99, rj_1_9, rj_0_99, rj_0_9, rj_0_6, rj_0_3, rj_0_255, rj_1_24, rj_3_39, rj_0_1, rj_0_8, rj_0_2, rj_1_30, rj_0_14, rj_12_16, h0, Option.isSome_some, i10, h1, Option.isSome_none, reduceIte]
      exact k134 (w := 0) hR hW (by decide) (by decide) (fun h2 q2 hR2 => by simp only [pu_s, v147_30]; exact kk h2 (MG.of q2 (fun a j z => by omega)) hR2)
    | some k' =>
      rw [h1] at kk
      dsimp only at kk
      obtain ⟨rfl, -, hk⟩ := rgI_s (by decide) (by decide) h1
      obtain ⟨y1, y2, y3, y4⟩ := hS i (by omega)
      have c1 : (nI i).toNatClampNeg = i := nIc (by omega)
      have i1 : inb (nI i) 8 = True := nIb (by omega) (by omega)
      rcases shTri (hW.2.2.2.2 i (by omega)) with ⟨g1, g2, g3, g4⟩ | ⟨x, g1, g1', g2, g3, g4⟩ | ⟨x, g1, g1', g1'', g2, g3, g4⟩
      · rw [g2] at y1
        rw [g1] at kk
        simp only [v147_0, v147_1, v147_2, v147_3, v147_6, v147_9, v147_12, v147_13, v147_14, v147_15, v147_18, v147_21, v147_24, v147_25, v147_27, v147_30, v147_31, v147_32, v147_35, v147_36, v147_37, v147_38, v147_41, v147_42, v147_45, v147_46, v147_47, v147_48, v147_51, v147_52, v147_55, v147_56, v147_59, v147_60, v147_61, v147_62, v147_63, v147_64, v147_65, v147_68, v147_71, v147_72, v147_74, v147_77, v147_78, v147_79, v147_82, v147_83, v147_84, v147_87, v147_88, v147_90, v147_93, v147_94, v147_95, v147_98, v147_99, v147_102, v147_103, v147_104, v147_105, v147_106, v147_107_0, v147_107_1, v147_107_2, v147_107_3, v147_107_4, v147_107_d, v147_140, v147_141, v147_142, v147_143, v147_144, v147_145, v147_146, v147_147, v147_148, v147_149, v147_150, v147_151, v147_152, v147_153, v147_154, v147_155, v147_156, v147_157, v147_160, v147_161, v147_162, v147_163, v147_164, v147_165, v147_166, v147_167, v147_168, v147_169, v147_170, v147_171, v147_172, v147_175, e147, hM.f0, hM.f1, hM.f2, hM.f3, hM.f4, hM.f5, hM.f6, hM.f8, hM.f10, hM.f12, hM.f13, hM.f25, hM.f27, hM.f28, hM.f36, hM.f37, hM.f38, hM.f40, hM.k0, hM.k1, hM.k2, hM.k3, hM.k4, hM.k13, hM.k14, hM.k15, hM.k16, hM.k17, hM.k26, hM.k51, hM.k52, hM.k53, hM.k54, hM.k55, hM.k56, hM.k57, hM.k58, hM.n1, hM.n2, hM.n3, hM.n4, hM.n13, hM.n14, hM.n15, hM.n16, hM.n17, hM.n26, hM.n51, hM.n52, hM.n53, hM.n54, hM.n55, hM.n56, hM.n57, hM.n58, vrf_s, true_or, or_true, true_and, and_true, and_self, not_false_eq_true, pu_s, pu_n, z2_e0, z2_n0, z2_t, z2_f, c135, rj_0_7, rj_0_4, rj_0_40, rj_0_5, rj_1_99, rj_1_9, rj_0_99, rj_0_9, rj_0_6, rj_0_3, rj_0_255, rj_1_24, rj_3_39, rj_0_1, rj_0_8, rj_0_2, rj_1_30, rj_0_14, rj_12_16, h0, Option.isSome_some, i10, h1, reduceIte, c1, i1, y1, q00, q01, q02, q10, q11, q12, q20, q21, q22, not_false_eq_true, not_true_eq_false]
        exact k134 (w := 2) hR hW (by decide) (by decide) (fun h2 q2 hR2 => by simp only [pu_s, v147_93]; exact kk h2 (MG.of q2 (fun a j z => by omega)) hR2)
      · rw [g2] at y1
        rw [g1] at kk
        dsimp only at kk
        rw [if_neg (by omega)] at kk
        simp only [v147_0, v147_1, v147_2, v147_3, v147_6, v147_9, v147_12, v147_13, v147_14, v147_15, v147_18, v147_21, v147_24, v147_25, v147_27, v147_30, v147_31, v147_32, v147_35, v147_36, v147_37, v147_38, v147_41, v147_42, v147_45, v147_46, v147_47, v147_48, v147_51, v147_52, v147_55, v147_56, v147_59, v147_60, v147_61, v147_62, v147_63, v147_64, v147_65, v147_68, v147_71, v147_72, v147_74, v147_77, v147_78, v147_79, v147_82, v147_83, v147_84, v147_87, v147_88, v147_90, v147_93, v147_94, v147_95, v147_98, v147_99, v147_102, v147_103, v147_104, v147_105, v147_106, v147_107_0, v147_107_1, v147_107_2, v147_107_3, v147_107_4, v147_107_d, v147_140, v147_141, v147_142, v147_143, v147_144, v147_145, v147_146, v147_147, v147_148, v147_149, v147_150, v147_151, v147_152, v147_153, v147_154, v147_155, v147_156, v147_157, v147_160, v147_161, v147_162, v147_163, v147_164, v147_165, v147_166, v147_167, v147_168, v147_169, v147_170, v147_171, v147_172, v147_175, e147, hM.f0, hM.f1, hM.f2, hM.f3, hM.f4, hM.f5, hM.f6, hM.f8, hM.f10, hM.f12, hM.f13, hM.f25, hM.f27, hM.f28, hM.f36, hM.f37, hM.f38, hM.f40, hM.k0, hM.k1, hM.k2, hM.k3, hM.k4, hM.k13, hM.k14, hM.k15, hM.k16, hM.k17, hM.k26, hM.k51, hM.k52, hM.k53, hM.k54, hM.k55, hM.k56, hM.k57, hM.k58, hM.n1, hM.n2, hM.n3, hM.n4, hM.n13, hM.n14, hM.n15, hM.n16, hM.n17, hM.n26, hM.n51, hM.n52, hM.n53, hM.n54, hM.n55, hM.n56, hM.n57, hM.n58, vrf_s, true_or, or_true, true_and, and_true, and_self, not_false_eq_true, pu_s, pu_n, z2_e0, z2_n0, z2_t, z2_f, c135, rj_0_7, rj_0_4, rj_0_40, rj_0_5, rj_1_99, rj_1_9, rj_0_99, rj_0_9, rj_0_6, rj_0_3, rj_0_255, rj_1_24, rj_3_39, rj_0_1, rj_0_8, rj_0_2, rj_1_30, rj_0_14, rj_12_16, h0, Option.isSome_some, i10, h1, reduceIte, c1, i1, y1, q00, q01, q02, q10, q11, q12, q20, q21, q22]
        exact k134 (w := 1) hR hW (by decide) (by decide) (fun h2 q2 hR2 => by simp only [pu_s, v147_77]; exact kk h2 (MG.of q2 (fun a j z => by omega)) hR2)
      · rw [g2] at y1
        rw [g1] at kk
        dsimp only at kk
        have hn8 := hW.1.1
        have ht : x - 10 < sN (aS A) := by omega
        have hsh := (y2 x g1).2 g1'
        obtain ⟨u1, u2, u3⟩ := hM.th (show x - 10 < 8 by omega)
        have c2 : (nI (x - 10)).toNatClampNeg = x - 10 := nIc (by omega)
        have i2 : inb (nI (x - 10)) 8 = True := nIb (by omega) (by omega)
        have e0 := hP.t ht (k := 0) (by omega)
        have e1 := hP.t ht (k := 1) (by omega)
        have e4 := hP.t ht (k := 4) (by omega)
        obtain ⟨b0, -, b1, -, -, -, b4, -, -⟩ := hW.1.2.2.1 (x - 10) ht
        have cu := fun (K : Option Value → Hp → Prop) => c146 (h := h) (K := K) (k := sT (aS A) (x - 10) 0) (a := k') (by omega) (by omega)
        cases hu : und (sT (aS A) (x - 10) 0) k' with
        | false =>
          rw [hu] at kk cu
          rw [if_neg (fun z => by cases z.2)] at kk
          simp only [v147_0, v147_1, v147_2, v147_3, v147_6, v147_9, v147_12, v147_13, v147_14, v147_15, v147_18, v147_21, v147_24, v147_25, v147_27, v147_30, v147_31, v147_32, v147_35, v147_36, v147_37, v147_38, v147_41, v147_42, v147_45, v147_46, v147_47, v147_48, v147_51, v147_52, v147_55, v147_56, v147_59, v147_60, v147_61, v147_62, v147_63, v147_64, v147_65, v147_68, v147_71, v147_72, v147_74, v147_77, v147_78, v147_79, v147_82, v147_83, v147_84, v147_87, v147_88, v147_90, v147_93, v147_94, v147_95, v147_98, v147_99, v147_102, v147_103, v147_104, v147_105, v147_106, v147_107_0, v147_107_1, v147_107_2, v147_107_3, v147_107_4, v147_107_d, v147_140, v147_141, v147_142, v147_143, v147_144, v147_145, v147_146, v147_147, v147_148, v147_149, v147_150, v147_151, v147_152, v147_153, v147_154, v147_155, v147_156, v147_157, v147_160, v147_161, v147_162, v147_163, v147_164, v147_165, v147_166, v147_167, v147_168, v147_169, v147_170, v147_171, v147_172, v147_175, e147, hM.f0, hM.f1, hM.f2, hM.f3, hM.f4, hM.f5, hM.f6, hM.f8, hM.f10, hM.f12, hM.f13, hM.f25, hM.f27, hM.f28, hM.f36, hM.f37, hM.f38, hM.f40, hM.k0, hM.k1, hM.k2, hM.k3, hM.k4, hM.k13, hM.k14, hM.k15, hM.k16, hM.k17, hM.k26, hM.k51, hM.k52, hM.k53, hM.k54, hM.k55, hM.k56, hM.k57, hM.k58, hM.n1, hM.n2, hM.n3, hM.n4, hM.n13, hM.n14, hM.n15, hM.n16, hM.n17, hM.n26, hM.n51, hM.n52, hM.n53, hM.n54, hM.n55, hM.n56, hM.n57, hM.n58, vrf_s, true_or, or_true, true_and, and_true, and_self, not_false_eq_true, pu_s, pu_n, z2_e0, z2_n0, z2_t, z2_f, c135, rj_0_7, rj_0_4, rj_0_40, rj_0_5, rj_1_99, rj_1_9, rj_0_99, rj_0_9, rj_0_6, rj_0_3, rj_0_255, rj_1_24, rj_3_39, rj_0_1, rj_0_8, rj_0_2, rj_1_30, rj_0_14, rj_12_16, h0, Option.isSome_some, i10, h1, reduceIte, c1, i1, y1, q00, q01, q02, q10, q11, q12, q20, q21, q22, not_true_eq_false, hsh, c2, i2, u1, u2, u3, ib7_0, ib7_1, ib7_2, ib7_3, ib7_4, ib7_5, ib7_6, ib3_0, ib3_1, ib3_2, ib4_0, ib4_1, ib4_2, ib4_3, tc0, tc1, tc2, tc3, tc4, tc5, tc6, e0, cu]
          exact k134 (w := 1) hR hW (by decide) (by decide) (fun h2 q2 hR2 => by simp only [pu_s, v147_77]; exact kk h2 (MG.of q2 (fun a j z => by omega)) hR2)
        | true =>
          rw [hu] at kk cu
          rw [if_pos ⟨g1', rfl⟩] at kk
          have hsy := kk h MG.rf hR
          have p0 : paF 0 (nI (sT (aS A) (x - 10) 0)) (nI (sT (aS A) (x - 10) 1)) (nI (sT (aS A) (x - 10) 4)) 0 = nI (payN 0 (sT (aS A) (x - 10) 0) (sT (aS A) (x - 10) 1) (sT (aS A) (x - 10) 4) 0) := paF_N (s := 0) (d := 0) (by decide) (by omega) b1 b4 (by decide)
          have p1 : paF 1 (nI (sT (aS A) (x - 10) 0)) (nI (sT (aS A) (x - 10) 1)) (nI (sT (aS A) (x - 10) 4)) 0 = nI (payN 1 (sT (aS A) (x - 10) 0) (sT (aS A) (x - 10) 1) (sT (aS A) (x - 10) 4) 0) := paF_N (s := 1) (d := 0) (by decide) (by omega) b1 b4 (by decide)
          have hk' : k' = 0 ∨ k' = 1 ∨ k' = 2 ∨ k' = 3 ∨ k' = 4 ∨ k' = 5 := by omega
          have r : V 147 107 [.ref m, .int (nI i), .int (nI k'), .ref (m + (18 + (x - 10)))] [.int (nI k')] h K := by
            rcases hk' with rfl | rfl | rfl | rfl | rfl | rfl
            · show V 147 107 _ [.int 0] h K
              simp only [v147_0, v147_1, v147_2, v147_3, v147_6, v147_9, v147_12, v147_13, v147_14, v147_15, v147_18, v147_21, v147_24, v147_25, v147_27, v147_30, v147_31, v147_32, v147_35, v147_36, v147_37, v147_38, v147_41, v147_42, v147_45, v147_46, v147_47, v147_48, v147_51, v147_52, v147_55, v147_56, v147_59, v147_60, v147_61, v147_62, v147_63, v147_64, v147_65, v147_68, v147_71, v147_72, v147_74, v147_77, v147_78, v147_79, v147_82, v147_83, v147_84, v147_87, v147_88, v147_90, v147_93, v147_94, v147_95, v147_98, v147_99, v147_102, v147_103, v147_104, v147_105, v147_106, v147_107_0, v147_107_1, v147_107_2, v147_107_3, v147_107_4, v147_107_d, v147_140, v147_141, v147_142, v147_143, v147_144, v147_145, v147_146, v147_147, v147_148, v147_149, v147_150, v147_151, v147_152, v147_153, v147_154, v147_155, v147_156, v147_157, v147_160, v147_161, v147_162, v147_163, v147_164, v147_165, v147_166, v147_167, v147_168, v147_169, v147_170, v147_171, v147_172, v147_175, u2, u3, ib7_0, ib7_1, ib7_2, ib7_3, ib7_4, ib7_5, ib7_6, ib3_0, ib3_1, ib3_2, ib4_0, ib4_1, ib4_2, ib4_3, tc0, tc1, tc2, tc3, tc4, tc5, tc6, e1, true_and, true_or, and_self]
              exact hsy
            · show V 147 107 _ [.int 1] h K
              simp only [v147_0, v147_1, v147_2, v147_3, v147_6, v147_9, v147_12, v147_13, v147_14, v147_15, v147_18, v147_21, v147_24, v147_25, v147_27, v147_30, v147_31, v147_32, v147_35, v147_36, v147_37, v147_38, v147_41, v147_42, v147_45, v147_46, v147_47, v147_48, v147_51, v147_52, v147_55, v147_56, v147_59, v147_60, v147_61, v147_62, v147_63, v147_64, v147_65, v147_68, v147_71, v147_72, v147_74, v147_77, v147_78, v147_79, v147_82, v147_83, v147_84, v147_87, v147_88, v147_90, v147_93, v147_94, v147_95, v147_98, v147_99, v147_102, v147_103, v147_104, v147_105, v147_106, v147_107_0, v147_107_1, v147_107_2, v147_107_3, v147_107_4, v147_107_d, v147_140, v147_141, v147_142, v147_143, v147_144, v147_145, v147_146, v147_147, v147_148, v147_149, v147_150, v147_151, v147_152, v147_153, v147_154, v147_155, v147_156, v147_157, v147_160, v147_161, v147_162, v147_163, v147_164, v147_165, v147_166, v147_167, v147_168, v147_169, v147_170, v147_171, v147_172, v147_175, u2, u3, ib7_0, ib7_1, ib7_2, ib7_3, ib7_4, ib7_5, ib7_6, ib3_0, ib3_1, ib3_2, ib4_0, ib4_1, ib4_2, ib4_3, tc0, tc1, tc2, tc3, tc4, tc5, tc6, e0, e1, e4, c182, p0, pu_s, true_and, true_or, and_self]
              exact hsy
            · show V 147 107 _ [.int 2] h K
              simp only [v147_0, v147_1, v147_2, v147_3, v147_6, v147_9, v147_12, v147_13, v147_14, v147_15, v147_18, v147_21, v147_24, v147_25, v147_27, v147_30, v147_31, v147_32, v147_35, v147_36, v147_37, v147_38, v147_41, v147_42, v147_45, v147_46, v147_47, v147_48, v147_51, v147_52, v147_55, v147_56, v147_59, v147_60, v147_61, v147_62, v147_63, v147_64, v147_65, v147_68, v147_71, v147_72, v147_74, v147_77, v147_78, v147_79, v147_82, v147_83, v147_84, v147_87, v147_88, v147_90, v147_93, v147_94, v147_95, v147_98, v147_99, v147_102, v147_103, v147_104, v147_105, v147_106, v147_107_0, v147_107_1, v147_107_2, v147_107_3, v147_107_4, v147_107_d, v147_140, v147_141, v147_142, v147_143, v147_144, v147_145, v147_146, v147_147, v147_148, v147_149, v147_150, v147_151, v147_152, v147_153, v147_154, v147_155, v147_156, v147_157, v147_160, v147_161, v147_162, v147_163, v147_164, v147_165, v147_166, v147_167, v147_168, v147_169, v147_170, v147_171, v147_172, v147_175]
              exact hsy
            · show V 147 107 _ [.int 3] h K
              simp only [v147_0, v147_1, v147_2, v147_3, v147_6, v147_9, v147_12, v147_13, v147_14, v147_15, v147_18, v147_21, v147_24, v147_25, v147_27, v147_30, v147_31, v147_32, v147_35, v147_36, v147_37, v147_38, v147_41, v147_42, v147_45, v147_46, v147_47, v147_48, v147_51, v147_52, v147_55, v147_56, v147_59, v147_60, v147_61, v147_62, v147_63, v147_64, v147_65, v147_68, v147_71, v147_72, v147_74, v147_77, v147_78, v147_79, v147_82, v147_83, v147_84, v147_87, v147_88, v147_90, v147_93, v147_94, v147_95, v147_98, v147_99, v147_102, v147_103, v147_104, v147_105, v147_106, v147_107_0, v147_107_1, v147_107_2, v147_107_3, v147_107_4, v147_107_d, v147_140, v147_141, v147_142, v147_143, v147_144, v147_145, v147_146, v147_147, v147_148, v147_149, v147_150, v147_151, v147_152, v147_153, v147_154, v147_155, v147_156, v147_157, v147_160, v147_161, v147_162, v147_163, v147_164, v147_165, v147_166, v147_167, v147_168, v147_169, v147_170, v147_171, v147_172, v147_175, u2, u3, ib7_0, ib7_1, ib7_2, ib7_3, ib7_4, ib7_5, ib7_6, ib3_0, ib3_1, ib3_2, ib4_0, ib4_1, ib4_2, ib4_3, tc0, tc1, tc2, tc3, tc4, tc5, tc6, e0, e1, e4, c182, p1, pu_s, true_and, true_or, and_self]
              exact hsy
            · show V 147 107 _ [.int 4] h K
              simp only [v147_0, v147_1, v147_2, v147_3, v147_6, v147_9, v147_12, v147_13, v147_14, v147_15, v147_18, v147_21, v147_24, v147_25, v147_27, v147_30, v147_31, v147_32, v147_35, v147_36, v147_37, v147_38, v147_41, v147_42, v147_45, v147_46, v147_47, v147_48, v147_51, v147_52, v147_55, v147_56, v147_59, v147_60, v147_61, v147_62, v147_63, v147_64, v147_65, v147_68, v147_71, v147_72, v147_74, v147_77, v147_78, v147_79, v147_82, v147_83, v147_84, v147_87, v147_88, v147_90, v147_93, v147_94, v147_95, v147_98, v147_99, v147_102, v147_103, v147_104, v147_105, v147_106, v147_107_0, v147_107_1, v147_107_2, v147_107_3, v147_107_4, v147_107_d, v147_140, v147_141, v147_142, v147_143, v147_144, v147_145, v147_146, v147_147, v147_148, v147_149, v147_150, v147_151, v147_152, v147_153, v147_154, v147_155, v147_156, v147_157, v147_160, v147_161, v147_162, v147_163, v147_164, v147_165, v147_166, v147_167, v147_168, v147_169, v147_170, v147_171, v147_172, v147_175, u2, u3, ib7_0, ib7_1, ib7_2, ib7_3, ib7_4, ib7_5, ib7_6, ib3_0, ib3_1, ib3_2, ib4_0, ib4_1, ib4_2, ib4_3, tc0, tc1, tc2, tc3, tc4, tc5, tc6, e0, e1, e4, c182, p0, pu_s, true_and, true_or, and_self]
              exact hsy
            · show V 147 107 _ [.int 5] h K
              have hd : (5 : Int32).toInt < 0 ∨ 4 < (5 : Int32).toInt := by decide
              simp only [v147_0, v147_1, v147_2, v147_3, v147_6, v147_9, v147_12, v147_13, v147_14, v147_15, v147_18, v147_21, v147_24, v147_25, v147_27, v147_30, v147_31, v147_32, v147_35, v147_36, v147_37, v147_38, v147_41, v147_42, v147_45, v147_46, v147_47, v147_48, v147_51, v147_52, v147_55, v147_56, v147_59, v147_60, v147_61, v147_62, v147_63, v147_64, v147_65, v147_68, v147_71, v147_72, v147_74, v147_77, v147_78, v147_79, v147_82, v147_83, v147_84, v147_87, v147_88, v147_90, v147_93, v147_94, v147_95, v147_98, v147_99, v147_102, v147_103, v147_104, v147_105, v147_106, v147_107_0, v147_107_1, v147_107_2, v147_107_3, v147_107_4, v147_107_d, v147_140, v147_141, v147_142, v147_143, v147_144, v147_145, v147_146, v147_147, v147_148, v147_149, v147_150, v147_151, v147_152, v147_153, v147_154, v147_155, v147_156, v147_157, v147_160, v147_161, v147_162, v147_163, v147_164, v147_165, v147_166, v147_167, v147_168, v147_169, v147_170, v147_171, v147_172, v147_175, v147_107_d 5 hd, u2, u3, ib7_0, ib7_1, ib7_2, ib7_3, ib7_4, ib7_5, ib7_6, ib3_0, ib3_1, ib3_2, ib4_0, ib4_1, ib4_2, ib4_3, tc0, tc1, tc2, tc3, tc4, tc5, tc6, e0, e1, e4, c182, p1, pu_s, true_and, true_or, and_self]
              exact hsy
          simp only [v147_0, v147_1, v147_2, v147_3, v147_6, v147_9, v147_12, v147_13, v147_14, v147_15, v147_18, v147_21, v147_24, v147_25, v147_27, v147_30, v147_31, v147_32, v147_35, v147_36, v147_37, v147_38, v147_41, v147_42, v147_45, v147_46, v147_47, v147_48, v147_51, v147_52, v147_55, v147_56, v147_59, v147_60, v147_61, v147_62, v147_63, v147_64, v147_65, v147_68, v147_71, v147_72, v147_74, v147_77, v147_78, v147_79, v147_82, v147_83, v147_84, v147_87, v147_88, v147_90, v147_93, v147_94, v147_95, v147_98, v147_99, v147_102, v147_103, v147_104, v147_105, v147_106, v147_107_0, v147_107_1, v147_107_2, v147_107_3, v147_107_4, v147_107_d, v147_140, v147_141, v147_142, v147_143, v147_144, v147_145, v147_146, v147_147, v147_148, v147_149, v147_150, v147_151, v147_152, v147_153, v147_154, v147_155, v147_156, v147_157, v147_160, v147_161, v147_162, v147_163, v147_164, v147_165, v147_166, v147_167, v147_168, v147_169, v147_170, v147_171, v147_172, v147_175, e147, hM.f0, hM.f1, hM.f2, hM.f3, hM.f4, hM.f5, hM.f6, hM.f8, hM.f10, hM.f12, hM.f13, hM.f25, hM.f27, hM.f28, hM.f36, hM.f37, hM.f38, hM.f40, hM.k0, hM.k1, hM.k2, hM.k3, hM.k4, hM.k13, hM.k14, hM.k15, hM.k16, hM.k17, hM.k26, hM.k51, hM.k52, hM.k53, hM.k54, hM.k55, hM.k56, hM.k57, hM.k58, hM.n1, hM.n2, hM.n3, hM.n4, hM.n13, hM.n14, hM.n15, hM.n16, hM.n17, hM.n26, hM.n51, hM.n52, hM.n53, hM.n54, hM.n55, hM.n56, hM.n57, hM.n58, vrf_s, true_or, or_true, true_and, and_true, and_self, not_false_eq_true, pu_s, pu_n, z2_e0, z2_n0, z2_t, z2_f, c135, rj_0_7, rj_0_4, rj_0_40, rj_0_5, rj_1_99, rj_1_9, rj_0_99, rj_0_9, rj_0_6, rj_0_3, rj_0_255, rj_1_24, rj_3_39, rj_0_1, rj_0_8, rj_0_2, rj_1_30, rj_0_14, rj_12_16, h0, Option.isSome_some, i10, h1, reduceIte, c1, i1, y1, q00, q01, q02, q10, q11, q12, q20, q21, q22, not_true_eq_false, hsh, c2, i2, u1, u2, u3, ib7_0, ib7_1, ib7_2, ib7_3, ib7_4, ib7_5, ib7_6, ib3_0, ib3_1, ib3_2, ib4_0, ib4_1, ib4_2, ib4_3, tc0, tc1, tc2, tc3, tc4, tc5, tc6, e0, cu]
          exact r
end
