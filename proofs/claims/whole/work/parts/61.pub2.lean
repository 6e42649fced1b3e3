/-! thingOf, buyerOf, price, on, pays, clear, seed, on both sides -/
def oTOf (A : XA) (t w : Int32) : XA × Int32 := match thI (sN (aS A)) t with
  | none => rfI A 0 (-2)
  | some t => match rgI 0 6 w with
    | none => rfI A 0 (-2)
    | some w => (A, nI (sT (aS A) t w))
def oBOf (A : XA) (t w : Int32) : XA × Int32 := match thI (sM (aS A)) t with
  | none => rfI A 0 (-2)
  | some t => match rgI 0 2 w with
    | none => rfI A 0 (-2)
    | some w => (A, nI (sB (aS A) t w))
def oPrc (A : XA) (t w : Int32) : XA × Int32 := match thI (sN (aS A)) t with
  | none => rfI A 0 (-2)
  | some t => match rgI 0 6 w with
    | none => rfI A 0 (-2)
    | some w => (A, nI (prN (aS A) t w))
def oOn (A : XA) (w : Int32) : XA × Int32 := match rgI 0 6 w with
  | none => rfI A 0 (-2)
  | some w => (A, nI (msk (onN (aS A) (fun _ => false) w) (sN (aS A))))
def oPys (A : XA) (so t d : Int32) : XA × Int32 := match rgI 0 3 so with
  | none => rfI A 0 (-2)
  | some so => match thI (sN (aS A)) t with
    | none => rfI A 0 (-2)
    | some t => match rgI 0 8 d with
      | none => rfI A 0 (-2)
      | some d => (A, nI (payN so (sT (aS A) t 0) (sT (aS A) t 1) (sT (aS A) t 4) d))
def oClr (A : XA) : XA × Int32 := (wS A (ctS (aS A) 0), nI (sM (aS A)))
def oSed (A : XA) (v : Int32) : XA × Int32 := (wQ A ((aQ A).1, (aQ A).2.1, v), (aQ A).2.2)
theorem zbit : (0 : Nat).testBit = fun _ => false := funext (fun i => Nat.zero_testBit i)
section
variable {b m : Nat} {u : LU} {A : XA} {h h1 : Hp} {K : Option Value → Hp → Prop}
theorem CL.rf {b : Nat} {h : Hp} : Fr (CW b) h h := Fr.rf
theorem MG.rf : MG m h h := MG.of (F := fun _ _ => False) Fr.rf (fun a j z => z.elim)
theorem k69 (hC : CL b A h) (hW : WF A) (t w : Int32) (kk : ∀ h2, Fr (CW b) h h2 → CL b (oTOf A t w).1 h2 → K (some (.int (oTOf A t w).2)) h2) : AM 69 [.ref b, .int t, .int w] h K := by
  obtain ⟨⟨cn, kb, f0, f1, f3, f4, f5, f6⟩, hST, hKP, hTR, hTA, ⟨s1, s2, s3⟩, hRF⟩ := id hC
  unfold oTOf at kk
  cases h0 : thI (sN (aS A)) t with
  | none =>
    rw [h0] at kk
    simp only [v69_0, v69_1, v69_2, v69_5, v69_8, v69_9, v69_10, v69_12, v69_15, v69_18, v69_19, v69_21, v69_24, v69_25, v69_26, v69_29, v69_32, v69_33, v69_34, v69_35, v69_36, e69, kb, f0, f1, f3, f4, f5, f6, vrf_s, true_and, true_or, or_true, and_self, not_false_eq_true, pu_s, pu_n, z2_e0, z2_n0, z2_t, z2_f, k111 hC hW, h0, Option.isSome_none, reduceIte]
    exact k108 (w := 0) hC hW (by decide) (by decide) (fun h2 q2 hC2 => by simp only [pu_s, v69_24]; exact kk h2 q2 hC2)
  | some t' =>
    rw [h0] at kk
    have hn := hW.1.1
    obtain ⟨rfl, ht⟩ := thI_s (by omega) h0
    cases h1 : rgI 0 6 w with
    | none =>
      rw [h1] at kk
      simp only [v69_0, v69_1, v69_2, v69_5, v69_8, v69_9, v69_10, v69_12, v69_15, v69_18, v69_19, v69_21, v69_24, v69_25, v69_26, v69_29, v69_32, v69_33, v69_34, v69_35, v69_36, e69, kb, f0, f1, f3, f4, f5, f6, vrf_s, true_and, true_or, or_true, and_self, not_false_eq_true, pu_s, pu_n, z2_e0, z2_n0, z2_t, z2_f, k111 hC hW, h0, Option.isSome_some, i10, reduceIte, c123, ri_0_7, ri_0_4, ri_0_40, ri_0_5, ri_1_99, ri_1_9, ri_0_99, ri_0_9, ri_0_6, ri_0_3, ri_0_255, ri_1_24, ri_3_39, ri_0_1, ri_0_8, ri_0_2, ri_1_30, ri_0_14, ri_12_16, h1, Option.isSome_none]
      exact k108 (w := 0) hC hW (by decide) (by decide) (fun h2 q2 hC2 => by simp only [pu_s, v69_24]; exact kk h2 q2 hC2)
    | some w' =>
      rw [h1] at kk
      obtain ⟨rfl, -, hw⟩ := rgI_s (by decide) (by decide) h1
      obtain ⟨ρ, β, hQ, hV, hO, -⟩ := id hST
      obtain ⟨y1, y2, y3, y4, y5, y6, y7, y8, y9, y10, -⟩ := id hQ
      obtain ⟨u1, u2, u3, u4, u5⟩ := hQ.th (show t' < 8 by omega)
      have c1 : (nI t').toNatClampNeg = t' := nIc (by omega)
      have i1 : inb (nI t') 8 = True := nIb (by omega) (by omega)
      have cc : (nI w').toNatClampNeg = w' := nIc (by omega)
      have ic : inb (nI w') 7 = True := nIb (by omega) (by omega)
      have ee := hV.t ht (show w' < 7 by omega)
      simp only [v69_0, v69_1, v69_2, v69_5, v69_8, v69_9, v69_10, v69_12, v69_15, v69_18, v69_19, v69_21, v69_24, v69_25, v69_26, v69_29, v69_32, v69_33, v69_34, v69_35, v69_36, e69, kb, f0, f1, f3, f4, f5, f6, vrf_s, true_and, true_or, or_true, and_self, not_false_eq_true, pu_s, pu_n, z2_e0, z2_n0, z2_t, z2_f, k111 hC hW, h0, Option.isSome_some, i10, reduceIte, c123, ri_0_7, ri_0_4, ri_0_40, ri_0_5, ri_1_99, ri_1_9, ri_0_99, ri_0_9, ri_0_6, ri_0_3, ri_0_255, ri_1_24, ri_3_39, ri_0_1, ri_0_8, ri_0_2, ri_1_30, ri_0_14, ri_12_16, h1, y1, y2, y5, y6, c1, i1, u1, u2, u3, cc, ic, ee]
      exact kk h Fr.rf hC
theorem k174 (hR : MR m u A h) (hW : WF A) (t w : Int32) (kk : ∀ (h2 : Hp) (u2 : LU), MG m h h2 → MR m u2 (oTOf A t w).1 h2 → K (some (.int (oTOf A t w).2)) h2) : AM 174 [.ref m, .int t, .int w] h K := by
  obtain ⟨r0, hM, hpp, hP, hQ, hS, hT, hF, hL⟩ := id hR
  unfold oTOf at kk
  replace kk := fun h2 => kk h2 u
  cases h0 : thI (sN (aS A)) t with
  | none =>
    rw [h0] at kk
    simp only [v174_0, v174_1, v174_2, v174_5, v174_8, v174_9, v174_10, v174_11, v174_14, v174_17, v174_20, v174_21, v174_24, v174_25, v174_26, v174_27, v174_28, v174_31, v174_32, v174_34, v174_37, e174, hM.f0, hM.f1, hM.f2, hM.f3, hM.f4, hM.f5, hM.f6, hM.f8, hM.f10, hM.f12, hM.f13, hM.f25, hM.f27, hM.f28, hM.f36, hM.f37, hM.f38, hM.f40, hM.k0, hM.k1, hM.k2, hM.k3, hM.k4, hM.k13, hM.k14, hM.k15, hM.k16, hM.k17, hM.k26, hM.k51, hM.k52, hM.k53, hM.k54, hM.k55, hM.k56, hM.k57, hM.k58, hM.n1, hM.n2, hM.n3, hM.n4, hM.n13, hM.n14, hM.n15, hM.n16, hM.n17, hM.n26, hM.n51, hM.n52, hM.n53, hM.n54, hM.n55, hM.n56, hM.n57, hM.n58, vrf_s, true_or, or_true, true_and, and_true, and_self, not_false_eq_true, pu_s, pu_n, z2_e0, z2_n0, z2_t, z2_f, k136 hR hW, h0, Option.isSome_none, reduceIte]
    exact k134 (w := 0) hR hW (by decide) (by decide) (fun h2 q2 hR2 => by simp only [pu_s, v174_37]; exact kk h2 (MG.of q2 (fun a j z => by omega)) hR2)
  | some t' =>
    rw [h0] at kk
    have hn := hW.1.1
    obtain ⟨rfl, ht⟩ := thI_s (by omega) h0
    cases h1 : rgI 0 6 w with
    | none =>
      rw [h1] at kk
      simp only [v174_0, v174_1, v174_2, v174_5, v174_8, v174_9, v174_10, v174_11, v174_14, v174_17, v174_20, v174_21, v174_24, v174_25, v174_26, v174_27, v174_28, v174_31, v174_32, v174_34, v174_37, e174, hM.f0, hM.f1, hM.f2, hM.f3, hM.f4, hM.f5, hM.f6, hM.f8, hM.f10, hM.f12, hM.f13, hM.f25, hM.f27, hM.f28, hM.f36, hM.f37, hM.f38, hM.f40, hM.k0, hM.k1, hM.k2, hM.k3, hM.k4, hM.k13, hM.k14, hM.k15, hM.k16, hM.k17, hM.k26, hM.k51, hM.k52, hM.k53, hM.k54, hM.k55, hM.k56, hM.k57, hM.k58, hM.n1, hM.n2, hM.n3, hM.n4, hM.n13, hM.n14, hM.n15, hM.n16, hM.n17, hM.n26, hM.n51, hM.n52, hM.n53, hM.n54, hM.n55, hM.n56, hM.n57, hM.n58, vrf_s, true_or, or_true, true_and, and_true, and_self, not_false_eq_true, pu_s, pu_n, z2_e0, z2_n0, z2_t, z2_f, k136 hR hW, h0, Option.isSome_some, i10, reduceIte, c135, rj_0_7, rj_0_4, rj_0_40, rj_0_5, rj_1_99, rj_1_9, rj_0_99, rj_0_9, rj_0_6, rj_0_3, rj_0_255, rj_1_24, rj_3_39, rj_0_1, rj_0_8, rj_0_2, rj_1_30, rj_0_14, rj_12_16, h1, Option.isSome_none]
      exact k134 (w := 0) hR hW (by decide) (by decide) (fun h2 q2 hR2 => by simp only [pu_s, v174_37]; exact kk h2 (MG.of q2 (fun a j z => by omega)) hR2)
    | some w' =>
      rw [h1] at kk
      obtain ⟨rfl, -, hw⟩ := rgI_s (by decide) (by decide) h1
      obtain ⟨t1, t2, t3⟩ := hM.th (show t' < 8 by omega)
      have c1 : (nI t').toNatClampNeg = t' := nIc (by omega)
      have i1 : inb (nI t') 8 = True := nIb (by omega) (by omega)
      have cc : (nI w').toNatClampNeg = w' := nIc (by omega)
      have ic : inb (nI w') 7 = True := nIb (by omega) (by omega)
      have ee := hP.t ht (show w' < 7 by omega)
      simp only [v174_0, v174_1, v174_2, v174_5, v174_8, v174_9, v174_10, v174_11, v174_14, v174_17, v174_20, v174_21, v174_24, v174_25, v174_26, v174_27, v174_28, v174_31, v174_32, v174_34, v174_37, e174, hM.f0, hM.f1, hM.f2, hM.f3, hM.f4, hM.f5, hM.f6, hM.f8, hM.f10, hM.f12, hM.f13, hM.f25, hM.f27, hM.f28, hM.f36, hM.f37, hM.f38, hM.f40, hM.k0, hM.k1, hM.k2, hM.k3, hM.k4, hM.k13, hM.k14, hM.k15, hM.k16, hM.k17, hM.k26, hM.k51, hM.k52, hM.k53, hM.k54, hM.k55, hM.k56, hM.k57, hM.k58, hM.n1, hM.n2, hM.n3, hM.n4, hM.n13, hM.n14, hM.n15, hM.n16, hM.n17, hM.n26, hM.n51, hM.n52, hM.n53, hM.n54, hM.n55, hM.n56, hM.n57, hM.n58, vrf_s, true_or, or_true, true_and, and_true, and_self, not_false_eq_true, pu_s, pu_n, z2_e0, z2_n0, z2_t, z2_f, k136 hR hW, h0, Option.isSome_some, i10, reduceIte, c135, rj_0_7, rj_0_4, rj_0_40, rj_0_5, rj_1_99, rj_1_9, rj_0_99, rj_0_9, rj_0_6, rj_0_3, rj_0_255, rj_1_24, rj_3_39, rj_0_1, rj_0_8, rj_0_2, rj_1_30, rj_0_14, rj_12_16, h1, t1, t2, t3, c1, i1, cc, ic, ee]
      exact kk h MG.rf hR
theorem k70 (hC : CL b A h) (hW : WF A) (t w : Int32) (kk : ∀ h2, Fr (CW b) h h2 → CL b (oBOf A t w).1 h2 → K (some (.int (oBOf A t w).2)) h2) : AM 70 [.ref b, .int t, .int w] h K := by
  obtain ⟨⟨cn, kb, f0, f1, f3, f4, f5, f6⟩, hST, hKP, hTR, hTA, ⟨s1, s2, s3⟩, hRF⟩ := id hC
  unfold oBOf at kk
  cases h0 : thI (sM (aS A)) t with
  | none =>
    rw [h0] at kk
    simp only [v70_0, v70_1, v70_2, v70_5, v70_8, v70_9, v70_10, v70_11, v70_14, v70_17, v70_18, v70_20, v70_23, v70_24, v70_25, v70_28, v70_31, v70_32, v70_33, v70_34, v70_35, e70, kb, f0, f1, f3, f4, f5, f6, vrf_s, true_and, true_or, or_true, and_self, not_false_eq_true, pu_s, pu_n, z2_e0, z2_n0, z2_t, z2_f, k112 hC hW, h0, Option.isSome_none, reduceIte]
    exact k108 (w := 0) hC hW (by decide) (by decide) (fun h2 q2 hC2 => by simp only [pu_s, v70_23]; exact kk h2 q2 hC2)
  | some t' =>
    rw [h0] at kk
    have hn := hW.1.2.1
    obtain ⟨rfl, ht⟩ := thI_s (by omega) h0
    cases h1 : rgI 0 2 w with
    | none =>
      rw [h1] at kk
      simp only [v70_0, v70_1, v70_2, v70_5, v70_8, v70_9, v70_10, v70_11, v70_14, v70_17, v70_18, v70_20, v70_23, v70_24, v70_25, v70_28, v70_31, v70_32, v70_33, v70_34, v70_35, e70, kb, f0, f1, f3, f4, f5, f6, vrf_s, true_and, true_or, or_true, and_self, not_false_eq_true, pu_s, pu_n, z2_e0, z2_n0, z2_t, z2_f, k112 hC hW, h0, Option.isSome_some, i10, reduceIte, c123, ri_0_7, ri_0_4, ri_0_40, ri_0_5, ri_1_99, ri_1_9, ri_0_99, ri_0_9, ri_0_6, ri_0_3, ri_0_255, ri_1_24, ri_3_39, ri_0_1, ri_0_8, ri_0_2, ri_1_30, ri_0_14, ri_12_16, h1, Option.isSome_none]
      exact k108 (w := 0) hC hW (by decide) (by decide) (fun h2 q2 hC2 => by simp only [pu_s, v70_23]; exact kk h2 q2 hC2)
    | some w' =>
      rw [h1] at kk
      obtain ⟨rfl, -, hw⟩ := rgI_s (by decide) (by decide) h1
      obtain ⟨ρ, β, hQ, hV, hO, -⟩ := id hST
      obtain ⟨y1, y2, y3, y4, y5, y6, y7, y8, y9, y10, -⟩ := id hQ
      obtain ⟨u1, u2, u3, u4, u5⟩ := hQ.by (show t' < 24 by omega)
      have c1 : (nI t').toNatClampNeg = t' := nIc (by omega)
      have i1 : inb (nI t') 24 = True := nIb (by omega) (by omega)
      have cc : (nI w').toNatClampNeg = w' := nIc (by omega)
      have ic : inb (nI w') 3 = True := nIb (by omega) (by omega)
      have ee := hV.b ht (show w' < 3 by omega)
      simp only [v70_0, v70_1, v70_2, v70_5, v70_8, v70_9, v70_10, v70_11, v70_14, v70_17, v70_18, v70_20, v70_23, v70_24, v70_25, v70_28, v70_31, v70_32, v70_33, v70_34, v70_35, e70, kb, f0, f1, f3, f4, f5, f6, vrf_s, true_and, true_or, or_true, and_self, not_false_eq_true, pu_s, pu_n, z2_e0, z2_n0, z2_t, z2_f, k112 hC hW, h0, Option.isSome_some, i10, reduceIte, c123, ri_0_7, ri_0_4, ri_0_40, ri_0_5, ri_1_99, ri_1_9, ri_0_99, ri_0_9, ri_0_6, ri_0_3, ri_0_255, ri_1_24, ri_3_39, ri_0_1, ri_0_8, ri_0_2, ri_1_30, ri_0_14, ri_12_16, h1, y1, y3, y7, y8, c1, i1, u1, u2, u3, cc, ic, ee]
      exact kk h Fr.rf hC
theorem k175 (hR : MR m u A h) (hW : WF A) (t w : Int32) (kk : ∀ (h2 : Hp) (u2 : LU), MG m h h2 → MR m u2 (oBOf A t w).1 h2 → K (some (.int (oBOf A t w).2)) h2) : AM 175 [.ref m, .int t, .int w] h K := by
  obtain ⟨r0, hM, hpp, hP, hQ, hS, hT, hF, hL⟩ := id hR
  unfold oBOf at kk
  replace kk := fun h2 => kk h2 u
  cases h0 : thI (sM (aS A)) t with
  | none =>
    rw [h0] at kk
    simp only [v175_0, v175_1, v175_2, v175_5, v175_8, v175_9, v175_10, v175_11, v175_14, v175_17, v175_20, v175_21, v175_24, v175_25, v175_26, v175_27, v175_28, v175_31, v175_32, v175_34, v175_37, e175, hM.f0, hM.f1, hM.f2, hM.f3, hM.f4, hM.f5, hM.f6, hM.f8, hM.f10, hM.f12, hM.f13, hM.f25, hM.f27, hM.f28, hM.f36, hM.f37, hM.f38, hM.f40, hM.k0, hM.k1, hM.k2, hM.k3, hM.k4, hM.k13, hM.k14, hM.k15, hM.k16, hM.k17, hM.k26, hM.k51, hM.k52, hM.k53, hM.k54, hM.k55, hM.k56, hM.k57, hM.k58, hM.n1, hM.n2, hM.n3, hM.n4, hM.n13, hM.n14, hM.n15, hM.n16, hM.n17, hM.n26, hM.n51, hM.n52, hM.n53, hM.n54, hM.n55, hM.n56, hM.n57, hM.n58, vrf_s, true_or, or_true, true_and, and_true, and_self, not_false_eq_true, pu_s, pu_n, z2_e0, z2_n0, z2_t, z2_f, k137 hR hW, h0, Option.isSome_none, reduceIte]
    exact k134 (w := 0) hR hW (by decide) (by decide) (fun h2 q2 hR2 => by simp only [pu_s, v175_37]; exact kk h2 (MG.of q2 (fun a j z => by omega)) hR2)
  | some t' =>
    rw [h0] at kk
    have hn := hW.1.2.1
    obtain ⟨rfl, ht⟩ := thI_s (by omega) h0
    cases h1 : rgI 0 2 w with
    | none =>
      rw [h1] at kk
      simp only [v175_0, v175_1, v175_2, v175_5, v175_8, v175_9, v175_10, v175_11, v175_14, v175_17, v175_20, v175_21, v175_24, v175_25, v175_26, v175_27, v175_28, v175_31, v175_32, v175_34, v175_37, e175, hM.f0, hM.f1, hM.f2, hM.f3, hM.f4, hM.f5, hM.f6, hM.f8, hM.f10, hM.f12, hM.f13, hM.f25, hM.f27, hM.f28, hM.f36, hM.f37, hM.f38, hM.f40, hM.k0, hM.k1, hM.k2, hM.k3, hM.k4, hM.k13, hM.k14, hM.k15, hM.k16, hM.k17, hM.k26, hM.k51, hM.k52, hM.k53, hM.k54, hM.k55, hM.k56, hM.k57, hM.k58, hM.n1, hM.n2, hM.n3, hM.n4, hM.n13, hM.n14, hM.n15, hM.n16, hM.n17, hM.n26, hM.n51, hM.n52, hM.n53, hM.n54, hM.n55, hM.n56, hM.n57, hM.n58, vrf_s, true_or, or_true, true_and, and_true, and_self, not_false_eq_true, pu_s, pu_n, z2_e0, z2_n0, z2_t, z2_f, k137 hR hW, h0, Option.isSome_some, i10, reduceIte, c135, rj_0_7, rj_0_4, rj_0_40, rj_0_5, rj_1_99, rj_1_9, rj_0_99, rj_0_9, rj_0_6, rj_0_3, rj_0_255, rj_1_24, rj_3_39, rj_0_1, rj_0_8, rj_0_2, rj_1_30, rj_0_14, rj_12_16, h1, Option.isSome_none]
      exact k134 (w := 0) hR hW (by decide) (by decide) (fun h2 q2 hR2 => by simp only [pu_s, v175_37]; exact kk h2 (MG.of q2 (fun a j z => by omega)) hR2)
    | some w' =>
      rw [h1] at kk
      obtain ⟨rfl, -, hw⟩ := rgI_s (by decide) (by decide) h1
      obtain ⟨t1, t2, t3⟩ := hM.by (show t' < 24 by omega)
      have c1 : (nI t').toNatClampNeg = t' := nIc (by omega)
      have i1 : inb (nI t') 24 = True := nIb (by omega) (by omega)
      have cc : (nI w').toNatClampNeg = w' := nIc (by omega)
      have ic : inb (nI w') 3 = True := nIb (by omega) (by omega)
      have ee := hP.b ht (show w' < 3 by omega)
      simp only [v175_0, v175_1, v175_2, v175_5, v175_8, v175_9, v175_10, v175_11, v175_14, v175_17, v175_20, v175_21, v175_24, v175_25, v175_26, v175_27, v175_28, v175_31, v175_32, v175_34, v175_37, e175, hM.f0, hM.f1, hM.f2, hM.f3, hM.f4, hM.f5, hM.f6, hM.f8, hM.f10, hM.f12, hM.f13, hM.f25, hM.f27, hM.f28, hM.f36, hM.f37, hM.f38, hM.f40, hM.k0, hM.k1, hM.k2, hM.k3, hM.k4, hM.k13, hM.k14, hM.k15, hM.k16, hM.k17, hM.k26, hM.k51, hM.k52, hM.k53, hM.k54, hM.k55, hM.k56, hM.k57, hM.k58, hM.n1, hM.n2, hM.n3, hM.n4, hM.n13, hM.n14, hM.n15, hM.n16, hM.n17, hM.n26, hM.n51, hM.n52, hM.n53, hM.n54, hM.n55, hM.n56, hM.n57, hM.n58, vrf_s, true_or, or_true, true_and, and_true, and_self, not_false_eq_true, pu_s, pu_n, z2_e0, z2_n0, z2_t, z2_f, k137 hR hW, h0, Option.isSome_some, i10, reduceIte, c135, rj_0_7, rj_0_4, rj_0_40, rj_0_5, rj_1_99, rj_1_9, rj_0_99, rj_0_9, rj_0_6, rj_0_3, rj_0_255, rj_1_24, rj_3_39, rj_0_1, rj_0_8, rj_0_2, rj_1_30, rj_0_14, rj_12_16, h1, t1, t2, t3, c1, i1, cc, ic, ee]
      exact kk h MG.rf hR
theorem k71 (hC : CL b A h) (hW : WF A) (t w : Int32) (kk : ∀ h2, Fr (CW b) h h2 → CL b (oPrc A t w).1 h2 → K (some (.int (oPrc A t w).2)) h2) : AM 71 [.ref b, .int t, .int w] h K := by
  obtain ⟨⟨cn, kb, f0, f1, f3, f4, f5, f6⟩, hST, hKP, hTR, hTA, ⟨s1, s2, s3⟩, hRF⟩ := id hC
  unfold oPrc at kk
  cases h0 : thI (sN (aS A)) t with
  | none =>
    rw [h0] at kk
    simp only [v71_0, v71_1, v71_2, v71_5, v71_8, v71_9, v71_10, v71_12, v71_15, v71_18, v71_19, v71_21, v71_24, v71_25, v71_26, v71_29, v71_30, v71_31, v71_34, e71, kb, f0, f1, f3, f4, f5, f6, vrf_s, true_and, true_or, or_true, and_self, not_false_eq_true, pu_s, pu_n, z2_e0, z2_n0, z2_t, z2_f, k111 hC hW, h0, Option.isSome_none, reduceIte]
    exact k108 (w := 0) hC hW (by decide) (by decide) (fun h2 q2 hC2 => by simp only [pu_s, v71_24]; exact kk h2 q2 hC2)
  | some t' =>
    rw [h0] at kk
    have hn := hW.1.1
    obtain ⟨rfl, ht⟩ := thI_s (by omega) h0
    cases h1 : rgI 0 6 w with
    | none =>
      rw [h1] at kk
      simp only [v71_0, v71_1, v71_2, v71_5, v71_8, v71_9, v71_10, v71_12, v71_15, v71_18, v71_19, v71_21, v71_24, v71_25, v71_26, v71_29, v71_30, v71_31, v71_34, e71, kb, f0, f1, f3, f4, f5, f6, vrf_s, true_and, true_or, or_true, and_self, not_false_eq_true, pu_s, pu_n, z2_e0, z2_n0, z2_t, z2_f, k111 hC hW, h0, Option.isSome_some, i10, reduceIte, c123, ri_0_7, ri_0_4, ri_0_40, ri_0_5, ri_1_99, ri_1_9, ri_0_99, ri_0_9, ri_0_6, ri_0_3, ri_0_255, ri_1_24, ri_3_39, ri_0_1, ri_0_8, ri_0_2, ri_1_30, ri_0_14, ri_12_16, h1, Option.isSome_none]
      exact k108 (w := 0) hC hW (by decide) (by decide) (fun h2 q2 hC2 => by simp only [pu_s, v71_24]; exact kk h2 q2 hC2)
    | some w' =>
      rw [h1] at kk
      obtain ⟨rfl, -, hw⟩ := rgI_s (by decide) (by decide) h1
      obtain ⟨ρ, β, hQ, hV, hO, -⟩ := id hST
      have y1 := hQ.1
      simp only [v71_0, v71_1, v71_2, v71_5, v71_8, v71_9, v71_10, v71_12, v71_15, v71_18, v71_19, v71_21, v71_24, v71_25, v71_26, v71_29, v71_30, v71_31, v71_34, e71, kb, f0, f1, f3, f4, f5, f6, vrf_s, true_and, true_or, or_true, and_self, not_false_eq_true, pu_s, pu_n, z2_e0, z2_n0, z2_t, z2_f, k111 hC hW, h0, Option.isSome_some, i10, reduceIte, c123, ri_0_7, ri_0_4, ri_0_40, ri_0_5, ri_1_99, ri_1_9, ri_0_99, ri_0_9, ri_0_6, ri_0_3, ri_0_255, ri_1_24, ri_3_39, ri_0_1, ri_0_8, ri_0_2, ri_1_30, ri_0_14, ri_12_16, h1, y1, c28 hQ hV hO ht hw]
      exact kk h Fr.rf hC
theorem k177 (hR : MR m u A h) (hW : WF A) (t w : Int32) (kk : ∀ (h2 : Hp) (u2 : LU), MG m h h2 → MR m u2 (oPrc A t w).1 h2 → K (some (.int (oPrc A t w).2)) h2) : AM 177 [.ref m, .int t, .int w] h K := by
  obtain ⟨r0, hM, hpp, hP, hQ, hS, hT, hF, hL⟩ := id hR
  unfold oPrc at kk
  replace kk := fun h2 => kk h2 u
  cases h0 : thI (sN (aS A)) t with
  | none =>
    rw [h0] at kk
    simp only [v177_0, v177_1, v177_2, v177_5, v177_8, v177_9, v177_10, v177_11, v177_14, v177_17, v177_20, v177_21, v177_22, v177_23, v177_26, v177_29, v177_30, v177_32, v177_35, e177, hM.f0, hM.f1, hM.f2, hM.f3, hM.f4, hM.f5, hM.f6, hM.f8, hM.f10, hM.f12, hM.f13, hM.f25, hM.f27, hM.f28, hM.f36, hM.f37, hM.f38, hM.f40, hM.k0, hM.k1, hM.k2, hM.k3, hM.k4, hM.k13, hM.k14, hM.k15, hM.k16, hM.k17, hM.k26, hM.k51, hM.k52, hM.k53, hM.k54, hM.k55, hM.k56, hM.k57, hM.k58, hM.n1, hM.n2, hM.n3, hM.n4, hM.n13, hM.n14, hM.n15, hM.n16, hM.n17, hM.n26, hM.n51, hM.n52, hM.n53, hM.n54, hM.n55, hM.n56, hM.n57, hM.n58, vrf_s, true_or, or_true, true_and, and_true, and_self, not_false_eq_true, pu_s, pu_n, z2_e0, z2_n0, z2_t, z2_f, k136 hR hW, h0, Option.isSome_none, reduceIte]
    exact k134 (w := 0) hR hW (by decide) (by decide) (fun h2 q2 hR2 => by simp only [pu_s, v177_35]; exact kk h2 (MG.of q2 (fun a j z => by omega)) hR2)
  | some t' =>
    rw [h0] at kk
    have hn := hW.1.1
    obtain ⟨rfl, ht⟩ := thI_s (by omega) h0
    cases h1 : rgI 0 6 w with
    | none =>
      rw [h1] at kk
      simp only [v177_0, v177_1, v177_2, v177_5, v177_8, v177_9, v177_10, v177_11, v177_14, v177_17, v177_20, v177_21, v177_22, v177_23, v177_26, v177_29, v177_30, v177_32, v177_35, e177, hM.f0, hM.f1, hM.f2, hM.f3, hM.f4, hM.f5, hM.f6, hM.f8, hM.f10, hM.f12, hM.f13, hM.f25, hM.f27, hM.f28, hM.f36, hM.f37, hM.f38, hM.f40, hM.k0, hM.k1, hM.k2, hM.k3, hM.k4, hM.k13, hM.k14, hM.k15, hM.k16, hM.k17, hM.k26, hM.k51, hM.k52, hM.k53, hM.k54, hM.k55, hM.k56, hM.k57, hM.k58, hM.n1, hM.n2, hM.n3, hM.n4, hM.n13, hM.n14, hM.n15, hM.n16, hM.n17, hM.n26, hM.n51, hM.n52, hM.n53, hM.n54, hM.n55, hM.n56, hM.n57, hM.n58, vrf_s, true_or, or_true, true_and, and_true, and_self, not_false_eq_true, pu_s, pu_n, z2_e0, z2_n0, z2_t, z2_f, k136 hR hW, h0, Option.isSome_some, i10, reduceIte, c135, rj_0_7, rj_0_4, rj_0_40, rj_0_5, rj_1_99, rj_1_9, rj_0_99, rj_0_9, rj_0_6, rj_0_3, rj_0_255, rj_1_24, rj_3_39, rj_0_1, rj_0_8, rj_0_2, rj_1_30, rj_0_14, rj_12_16, h1, Option.isSome_none]
      exact k134 (w := 0) hR hW (by decide) (by decide) (fun h2 q2 hR2 => by simp only [pu_s, v177_35]; exact kk h2 (MG.of q2 (fun a j z => by omega)) hR2)
    | some w' =>
      rw [h1] at kk
      obtain ⟨rfl, -, hw⟩ := rgI_s (by decide) (by decide) h1
      simp only [v177_0, v177_1, v177_2, v177_5, v177_8, v177_9, v177_10, v177_11, v177_14, v177_17, v177_20, v177_21, v177_22, v177_23, v177_26, v177_29, v177_30, v177_32, v177_35, e177, hM.f0, hM.f1, hM.f2, hM.f3, hM.f4, hM.f5, hM.f6, hM.f8, hM.f10, hM.f12, hM.f13, hM.f25, hM.f27, hM.f28, hM.f36, hM.f37, hM.f38, hM.f40, hM.k0, hM.k1, hM.k2, hM.k3, hM.k4, hM.k13, hM.k14, hM.k15, hM.k16, hM.k17, hM.k26, hM.k51, hM.k52, hM.k53, hM.k54, hM.k55, hM.k56, hM.k57, hM.k58, hM.n1, hM.n2, hM.n3, hM.n4, hM.n13, hM.n14, hM.n15, hM.n16, hM.n17, hM.n26, hM.n51, hM.n52, hM.n53, hM.n54, hM.n55, hM.n56, hM.n57, hM.n58, vrf_s, true_or, or_true, true_and, and_true, and_self, not_false_eq_true, pu_s, pu_n, z2_e0, z2_n0, z2_t, z2_f, k136 hR hW, h0, Option.isSome_some, i10, reduceIte, c135, rj_0_7, rj_0_4, rj_0_40, rj_0_5, rj_1_99, rj_1_9, rj_0_99, rj_0_9, rj_0_6, rj_0_3, rj_0_255, rj_1_24, rj_3_39, rj_0_1, rj_0_8, rj_0_2, rj_1_30, rj_0_14, rj_12_16, h1, c176 hM hP hW.1 ht hw]
      exact kk h MG.rf hR
theorem k72 (hC : CL b A h) (hW : WF A) (w : Int32) (kk : ∀ h2, Fr (CW b) h h2 → CL b (oOn A w).1 h2 → K (some (.int (oOn A w).2)) h2) : AM 72 [.ref b, .int w] h K := by
  obtain ⟨⟨cn, kb, f0, f1, f3, f4, f5, f6⟩, hST, hKP, hTR, hTA, ⟨s1, s2, s3⟩, hRF⟩ := id hC
  unfold oOn at kk
  cases h1 : rgI 0 6 w with
  | none =>
    rw [h1] at kk
    simp only [v72_0, v72_1, v72_2, v72_4, v72_7, v72_10, v72_11, v72_13, v72_16, v72_17, v72_18, v72_21, v72_22, v72_23, v72_26, e72, kb, f0, f1, f3, f4, f5, f6, vrf_s, true_and, true_or, or_true, and_self, not_false_eq_true, pu_s, pu_n, z2_e0, z2_n0, z2_t, z2_f, reduceIte, c123, ri_0_7, ri_0_4, ri_0_40, ri_0_5, ri_1_99, ri_1_9, ri_0_99, ri_0_9, ri_0_6, ri_0_3, ri_0_255, ri_1_24, ri_3_39, ri_0_1, ri_0_8, ri_0_2, ri_1_30, ri_0_14, ri_12_16, h1, Option.isSome_none]
    exact k108 (w := 0) hC hW (by decide) (by decide) (fun h2 q2 hC2 => by simp only [pu_s, v72_16]; exact kk h2 q2 hC2)
  | some w' =>
    rw [h1] at kk
    obtain ⟨rfl, -, hw⟩ := rgI_s (by decide) (by decide) h1
    obtain ⟨ρ, β, hQ, hV, hO, -⟩ := id hST
    have y1 := hQ.1
    have c := fun (K : Option Value → Hp → Prop) => c29 (X := 0) (K := K) hQ hV hO hw
    rw [zbit] at c
    have c' : ∀ K, AM 29 [.ref (b + 1), .int (nI w'), .int 0] h K = K (some (.int (nI (msk (onN (aS A) (fun _ => false) w') (sN (aS A)))))) h := c
    simp only [v72_0, v72_1, v72_2, v72_4, v72_7, v72_10, v72_11, v72_13, v72_16, v72_17, v72_18, v72_21, v72_22, v72_23, v72_26, e72, kb, f0, f1, f3, f4, f5, f6, vrf_s, true_and, true_or, or_true, and_self, not_false_eq_true, pu_s, pu_n, z2_e0, z2_n0, z2_t, z2_f, Option.isSome_some, i10, reduceIte, c123, ri_0_7, ri_0_4, ri_0_40, ri_0_5, ri_1_99, ri_1_9, ri_0_99, ri_0_9, ri_0_6, ri_0_3, ri_0_255, ri_1_24, ri_3_39, ri_0_1, ri_0_8, ri_0_2, ri_1_30, ri_0_14, ri_12_16, h1, y1, c']
    exact kk h Fr.rf hC
theorem c180_l (hM : MSh m h) (hP : MP m (aS A) h) (hO : SOk (aS A)) {on : Nat → Bool} (hon : ∀ t, t < sN (aS A) → gI h (m + 54) t = z2 (on t)) (v1 : Value) : ∀ (j t : Nat), t + j = sN (aS A) → V 180 33 [.ref m, v1, .int (nI (msk on t)), .int (nI t)] [] h K = K (some (.int (nI (msk on (sN (aS A)))))) h := by
  have hn8 := hO.1
  intro j
  induction j with
  | zero =>
    intro t hi
    have e : t = sN (aS A) := by omega
    subst e
    have e8 : (nI (sN (aS A)) ≤ nI (sN (aS A))) = True := eq_true (nI_le (Nat.le_refl _) (by omega))
    simp only [v180_0, v180_1, v180_2, v180_3, v180_6, v180_9, v180_12, v180_13, v180_15, v180_18, v180_19, v180_20, v180_23, v180_24, v180_25, v180_28, v180_29, v180_30, v180_31, v180_32, v180_33, v180_34, v180_35, v180_38, v180_41, v180_42, v180_43, v180_46, v180_47, v180_48, v180_51, v180_52, v180_53, v180_54, v180_57, v180_58, v180_59, v180_60, v180_66, v180_67, hM.f0, hM.f1, hM.f2, hM.f3, hM.f4, hM.f5, hM.f6, hM.f8, hM.f10, hM.f12, hM.f13, hM.f25, hM.f27, hM.f28, hM.f36, hM.f37, hM.f38, hM.f40, hM.k0, hM.k1, hM.k2, hM.k3, hM.k4, hM.k13, hM.k14, hM.k15, hM.k16, hM.k17, hM.k26, hM.k51, hM.k52, hM.k53, hM.k54, hM.k55, hM.k56, hM.k57, hM.k58, hM.n1, hM.n2, hM.n3, hM.n4, hM.n13, hM.n14, hM.n15, hM.n16, hM.n17, hM.n26, hM.n51, hM.n52, hM.n53, hM.n54, hM.n55, hM.n56, hM.n57, hM.n58, vrf_s, true_or, or_true, true_and, and_true, and_self, not_false_eq_true, hP.1, e8, reduceIte]
  | succ j ih =>
    intro t hi
    have lt : (nI (sN (aS A)) ≤ nI t) = False := eq_false (nI_ge (by omega) (by omega))
    have c1 : (nI t).toNatClampNeg = t := nIc (by omega)
    have i1 : inb (nI t) 8 = True := nIb (by omega) (by omega)
    have sh := nShl t (by omega)
    refine Eq.trans (b := V 180 63 [.ref m, v1, .int (nI (msk on (t + 1))), .int (nI (t + 1))] [] h K) ?_ ((v180_63 _ _ _ _).trans (ih (t + 1) (by omega)))
    have r : msk on (t + 1) = if on t = true then msk on t ||| 2 ^ t else msk on t := rfl
    rw [r]
    have z0 : ∀ x : Int32, x ||| 0 = x := fun x => by
      apply Int32.toBitVec_inj.1
      show x.toBitVec ||| 0#32 = x.toBitVec
      simp
    cases ho : on t with
    | true => simp only [v180_0, v180_1, v180_2, v180_3, v180_6, v180_9, v180_12, v180_13, v180_15, v180_18, v180_19, v180_20, v180_23, v180_24, v180_25, v180_28, v180_29, v180_30, v180_31, v180_32, v180_33, v180_34, v180_35, v180_38, v180_41, v180_42, v180_43, v180_46, v180_47, v180_48, v180_51, v180_52, v180_53, v180_54, v180_57, v180_58, v180_59, v180_60, v180_66, v180_67, hM.f0, hM.f1, hM.f2, hM.f3, hM.f4, hM.f5, hM.f6, hM.f8, hM.f10, hM.f12, hM.f13, hM.f25, hM.f27, hM.f28, hM.f36, hM.f37, hM.f38, hM.f40, hM.k0, hM.k1, hM.k2, hM.k3, hM.k4, hM.k13, hM.k14, hM.k15, hM.k16, hM.k17, hM.k26, hM.k51, hM.k52, hM.k53, hM.k54, hM.k55, hM.k56, hM.k57, hM.k58, hM.n1, hM.n2, hM.n3, hM.n4, hM.n13, hM.n14, hM.n15, hM.n16, hM.n17, hM.n26, hM.n51, hM.n52, hM.n53, hM.n54, hM.n55, hM.n56, hM.n57, hM.n58, vrf_s, true_or, or_true, true_and, and_true, and_self, not_false_eq_true, hP.1, lt, reduceIte, c1, i1, hon t (by omega), ho, z2_t, i10, sh, nOr, nI_1]
    | false => simp only [v180_0, v180_1, v180_2, v180_3, v180_6, v180_9, v180_12, v180_13, v180_15, v180_18, v180_19, v180_20, v180_23, v180_24, v180_25, v180_28, v180_29, v180_30, v180_31, v180_32, v180_33, v180_34, v180_35, v180_38, v180_41, v180_42, v180_43, v180_46, v180_47, v180_48, v180_51, v180_52, v180_53, v180_54, v180_57, v180_58, v180_59, v180_60, v180_66, v180_67, hM.f0, hM.f1, hM.f2, hM.f3, hM.f4, hM.f5, hM.f6, hM.f8, hM.f10, hM.f12, hM.f13, hM.f25, hM.f27, hM.f28, hM.f36, hM.f37, hM.f38, hM.f40, hM.k0, hM.k1, hM.k2, hM.k3, hM.k4, hM.k13, hM.k14, hM.k15, hM.k16, hM.k17, hM.k26, hM.k51, hM.k52, hM.k53, hM.k54, hM.k55, hM.k56, hM.k57, hM.k58, hM.n1, hM.n2, hM.n3, hM.n4, hM.n13, hM.n14, hM.n15, hM.n16, hM.n17, hM.n26, hM.n51, hM.n52, hM.n53, hM.n54, hM.n55, hM.n56, hM.n57, hM.n58, vrf_s, true_or, or_true, true_and, and_true, and_self, not_false_eq_true, hP.1, lt, reduceIte, c1, i1, hon t (by omega), ho, z2_f, z0, nI_1, Bool.false_eq_true]
theorem k180 (hR : MR m u A h) (hW : WF A) (w : Int32) (kk : ∀ (h2 : Hp) (u2 : LU), MG m h h2 → MR m u2 (oOn A w).1 h2 → K (some (.int (oOn A w).2)) h2) : AM 180 [.ref m, .int w] h K := by
  obtain ⟨r0, hM, hpp, hP, hQ, hS, hT, hF, hL⟩ := id hR
  unfold oOn at kk
  replace kk := fun h2 => kk h2 u
  have hn8 := hW.1.1
  cases h1 : rgI 0 6 w with
  | none =>
    rw [h1] at kk
    simp only [v180_0, v180_1, v180_2, v180_3, v180_6, v180_9, v180_12, v180_13, v180_15, v180_18, v180_19, v180_20, v180_23, v180_24, v180_25, v180_28, v180_29, v180_30, v180_31, v180_32, v180_33, v180_34, v180_35, v180_38, v180_41, v180_42, v180_43, v180_46, v180_47, v180_48, v180_51, v180_52, v180_53, v180_54, v180_57, v180_58, v180_59, v180_60, v180_66, v180_67, e180, hM.f0, hM.f1, hM.f2, hM.f3, hM.f4, hM.f5, hM.f6, hM.f8, hM.f10, hM.f12, hM.f13, hM.f25, hM.f27, hM.f28, hM.f36, hM.f37, hM.f38, hM.f40, hM.k0, hM.k1, hM.k2, hM.k3, hM.k4, hM.k13, hM.k14, hM.k15, hM.k16, hM.k17, hM.k26, hM.k51, hM.k52, hM.k53, hM.k54, hM.k55, hM.k56, hM.k57, hM.k58, hM.n1, hM.n2, hM.n3, hM.n4, hM.n13, hM.n14, hM.n15, hM.n16, hM.n17, hM.n26, hM.n51, hM.n52, hM.n53, hM.n54, hM.n55, hM.n56, hM.n57, hM.n58, vrf_s, true_or, or_true, true_and, and_true, and_self, not_false_eq_true, pu_s, pu_n, z2_e0, z2_n0, z2_t, z2_f, reduceIte, c135, rj_0_7, rj_0_4, rj_0_40, rj_0_5, rj_1_99, rj_1_9, rj_0_99, rj_0_9, rj_0_6, rj_0_3, rj_0_255, rj_1_24, rj_3_39, rj_0_1, rj_0_8, rj_0_2, rj_1_30, rj_0_14, rj_12_16, h1, Option.isSome_none]
    exact k134 (w := 0) hR hW (by decide) (by decide) (fun h2 q2 hR2 => by simp only [pu_s, v180_18]; exact kk h2 (MG.of q2 (fun a j z => by omega)) hR2)
  | some w' =>
    rw [h1] at kk
    obtain ⟨rfl, -, hw⟩ := rgI_s (by decide) (by decide) h1
    simp only [e180, v180_0, v180_1, v180_2, v180_3, v180_6, v180_9, v180_19, v180_20, hM.f0, hM.f1, hM.f2, hM.f3, hM.f4, hM.f5, hM.f6, hM.f8, hM.f10, hM.f12, hM.f13, hM.f25, hM.f27, hM.f28, hM.f36, hM.f37, hM.f38, hM.f40, hM.k0, hM.k1, hM.k2, hM.k3, hM.k4, hM.k13, hM.k14, hM.k15, hM.k16, hM.k17, hM.k26, hM.k51, hM.k52, hM.k53, hM.k54, hM.k55, hM.k56, hM.k57, hM.k58, hM.n1, hM.n2, hM.n3, hM.n4, hM.n13, hM.n14, hM.n15, hM.n16, hM.n17, hM.n26, hM.n51, hM.n52, hM.n53, hM.n54, hM.n55, hM.n56, hM.n57, hM.n58, vrf_s, true_or, or_true, true_and, and_true, and_self, not_false_eq_true, pu_s, pu_n, z2_e0, z2_n0, z2_t, z2_f, Option.isSome_some, i10, reduceIte, c135, rj_0_7, rj_0_4, rj_0_40, rj_0_5, rj_1_99, rj_1_9, rj_0_99, rj_0_9, rj_0_6, rj_0_3, rj_0_255, rj_1_24, rj_3_39, rj_0_1, rj_0_8, rj_0_2, rj_1_30, rj_0_14, rj_12_16, h1]
    refine c179 hM (fun h2 q2 hz => ?_)
    have q2' : Fr (DW m) h h2 := q2.mo (fun a j z => Or.inl ⟨by omega, by omega⟩)
    have hM2 := hM.dw q2'
    have k0 := hM2.k0
    simp only [pu_n, v180_23, v180_24, v180_25, k0, true_and]
    refine c178 hM2 (hP.dw hW.1 q2') hW.1 (sold := fun _ => false) hz hw (fun h3 q3 hon => ?_)
    have q3' : Fr (DW m) h h3 := q2'.tr (q3.mo (fun a j z => Or.inl ⟨by omega, by omega⟩))
    simp only [pu_s, v180_28, v180_29, v180_30, v180_31, v180_32]
    show V 180 33 [.ref m, .int (nI w'), .int (nI (msk (onN (aS A) (fun _ => false) w') 0)), .int (nI 0)] [] h3 K
    rw [c180_l (hM.dw q3') (hP.dw hW.1 q3') hW.1 hon _ (sN (aS A)) 0 (Nat.zero_add _)]
    exact kk h3 (MG.of q3' (fun a j z => by unfold DW at z; omega)) (hR.sc hW q3' (fun a j z => z.z))
theorem k73 (hC : CL b A h) (hW : WF A) (so t d : Int32) (kk : ∀ h2, Fr (CW b) h h2 → CL b (oPys A so t d).1 h2 → K (some (.int (oPys A so t d).2)) h2) : AM 73 [.ref b, .int so, .int t, .int d] h K := by
  obtain ⟨⟨cn, kb, f0, f1, f3, f4, f5, f6⟩, hST, hKP, hTR, hTA, ⟨s1, s2, s3⟩, hRF⟩ := id hC
  unfold oPys at kk
  cases h0 : rgI 0 3 so with
  | none =>
    rw [h0] at kk
    simp only [v73_0, v73_1, v73_2, v73_3, v73_6, v73_9, v73_10, v73_11, v73_14, v73_17, v73_18, v73_19, v73_21, v73_24, v73_27, v73_28, v73_30, v73_33, v73_34, v73_35, v73_38, v73_41, v73_42, v73_43, v73_45, v73_46, v73_48, v73_49, v73_50, v73_52, v73_53, v73_54, v73_56, v73_57, v73_58, v73_59, v73_62, e73, kb, f0, f1, f3, f4, f5, f6, vrf_s, true_and, true_or, or_true, and_self, not_false_eq_true, pu_s, pu_n, z2_e0, z2_n0, z2_t, z2_f, c123, ri_0_7, ri_0_4, ri_0_40, ri_0_5, ri_1_99, ri_1_9, ri_0_99, ri_0_9, ri_0_6, ri_0_3, ri_0_255, ri_1_24, ri_3_39, ri_0_1, ri_0_8, ri_0_2, ri_1_30, ri_0_14, ri_12_16, h0, Option.isSome_none, reduceIte]
    exact k108 (w := 0) hC hW (by decide) (by decide) (fun h2 q2 hC2 => by simp only [pu_s, v73_33]; exact kk h2 q2 hC2)
  | some so' =>
    rw [h0] at kk
    obtain ⟨rfl, -, hso⟩ := rgI_s (by decide) (by decide) h0
    cases h1 : thI (sN (aS A)) t with
    | none =>
      rw [h1] at kk
      simp only [v73_0, v73_1, v73_2, v73_3, v73_6, v73_9, v73_10, v73_11, v73_14, v73_17, v73_18, v73_19, v73_21, v73_24, v73_27, v73_28, v73_30, v73_33, v73_34, v73_35, v73_38, v73_41, v73_42, v73_43, v73_45, v73_46, v73_48, v73_49, v73_50, v73_52, v73_53, v73_54, v73_56, v73_57, v73_58, v73_59, v73_62, e73, kb, f0, f1, f3, f4, f5, f6, vrf_s, true_and, true_or, or_true, and_self, not_false_eq_true, pu_s, pu_n, z2_e0, z2_n0, z2_t, z2_f, c123, ri_0_7, ri_0_4, ri_0_40, ri_0_5, ri_1_99, ri_1_9, ri_0_99, ri_0_9, ri_0_6, ri_0_3, ri_0_255, ri_1_24, ri_3_39, ri_0_1, ri_0_8, ri_0_2, ri_1_30, ri_0_14, ri_12_16, h0, Option.isSome_some, i10, k111 hC hW, h1, Option.isSome_none, reduceIte]
      exact k108 (w := 0) hC hW (by decide) (by decide) (fun h2 q2 hC2 => by simp only [pu_s, v73_33]; exact kk h2 q2 hC2)
    | some t' =>
      rw [h1] at kk
      have hn := hW.1.1
      obtain ⟨rfl, ht⟩ := thI_s (by omega) h1
      cases h2 : rgI 0 8 d with
      | none =>
        rw [h2] at kk
        simp only [v73_0, v73_1, v73_2, v73_3, v73_6, v73_9, v73_10, v73_11, v73_14, v73_17, v73_18, v73_19, v73_21, v73_24, v73_27, v73_28, v73_30, v73_33, v73_34, v73_35, v73_38, v73_41, v73_42, v73_43, v73_45, v73_46, v73_48, v73_49, v73_50, v73_52, v73_53, v73_54, v73_56, v73_57, v73_58, v73_59, v73_62, e73, kb, f0, f1, f3, f4, f5, f6, vrf_s, true_and, true_or, or_true, and_self, not_false_eq_true, pu_s, pu_n, z2_e0, z2_n0, z2_t, z2_f, c123, ri_0_7, ri_0_4, ri_0_40, ri_0_5, ri_1_99, ri_1_9, ri_0_99, ri_0_9, ri_0_6, ri_0_3, ri_0_255, ri_1_24, ri_3_39, ri_0_1, ri_0_8, ri_0_2, ri_1_30, ri_0_14, ri_12_16, h0, Option.isSome_some, i10, k111 hC hW, h1, h2, Option.isSome_none, reduceIte]
        exact k108 (w := 0) hC hW (by decide) (by decide) (fun h2 q2 hC2 => by simp only [pu_s, v73_33]; exact kk h2 q2 hC2)
      | some d' =>
        rw [h2] at kk
        obtain ⟨rfl, -, hd⟩ := rgI_s (by decide) (by decide) h2
        obtain ⟨ρ, β, hQ, hV, hO, -⟩ := id hST
        obtain ⟨y1, y2, y3, y4, y5, y6, y7, y8, y9, y10, -⟩ := id hQ
        obtain ⟨u1, u2, u3, u4, u5⟩ := hQ.th (show t' < 8 by omega)
        have c1 : (nI t').toNatClampNeg = t' := nIc (by omega)
        have i1 : inb (nI t') 8 = True := nIb (by omega) (by omega)
        have e0 := hV.t ht (k := 0) (by omega)
        have e1 := hV.t ht (k := 1) (by omega)
        have e4 := hV.t ht (k := 4) (by omega)
        obtain ⟨b0, -, b1, -, -, -, b4, -, -⟩ := hO.2.2.1 t' ht
        simp only [v73_0, v73_1, v73_2, v73_3, v73_6, v73_9, v73_10, v73_11, v73_14, v73_17, v73_18, v73_19, v73_21, v73_24, v73_27, v73_28, v73_30, v73_33, v73_34, v73_35, v73_38, v73_41, v73_42, v73_43, v73_45, v73_46, v73_48, v73_49, v73_50, v73_52, v73_53, v73_54, v73_56, v73_57, v73_58, v73_59, v73_62, e73, kb, f0, f1, f3, f4, f5, f6, vrf_s, true_and, true_or, or_true, and_self, not_false_eq_true, pu_s, pu_n, z2_e0, z2_n0, z2_t, z2_f, c123, ri_0_7, ri_0_4, ri_0_40, ri_0_5, ri_1_99, ri_1_9, ri_0_99, ri_0_9, ri_0_6, ri_0_3, ri_0_255, ri_1_24, ri_3_39, ri_0_1, ri_0_8, ri_0_2, ri_1_30, ri_0_14, ri_12_16, h0, Option.isSome_some, i10, k111 hC hW, h1, h2, reduceIte, y1, y2, y5, y6, c1, i1, u1, u2, u3, ib7_0, ib7_1, ib7_2, ib7_3, ib7_4, ib7_5, ib7_6, ib3_0, ib3_1, ib3_2, ib4_0, ib4_1, ib4_2, ib4_3, tc0, tc1, tc2, tc3, tc4, tc5, tc6, e0, e1, e4, c132 cn (show so' < 4 by omega) (show sT (aS A) t' 0 < 6 by omega) b1 b4 hd]
        exact kk h Fr.rf hC
theorem k183 (hR : MR m u A h) (hW : WF A) (so t d : Int32) (kk : ∀ (h2 : Hp) (u2 : LU), MG m h h2 → MR m u2 (oPys A so t d).1 h2 → K (some (.int (oPys A so t d).2)) h2) : AM 183 [.ref m, .int so, .int t, .int d] h K := by
  obtain ⟨r0, hM, hpp, hP, hQ, hS, hT, hF, hL⟩ := id hR
  unfold oPys at kk
  replace kk := fun h2 => kk h2 u
  cases h0 : rgI 0 3 so with
  | none =>
    rw [h0] at kk
    simp only [v183_0, v183_1, v183_2, v183_3, v183_6, v183_9, v183_12, v183_13, v183_14, v183_17, v183_20, v183_21, v183_22, v183_23, v183_26, v183_29, v183_32, v183_33, v183_35, v183_38, v183_39, v183_40, v183_41, v183_44, v183_45, v183_46, v183_47, v183_48, v183_49, v183_52, v183_53, v183_54, v183_55, v183_56, v183_57, v183_60, v183_61, v183_62, v183_63, v183_64, v183_65, v183_68, e183, hM.f0, hM.f1, hM.f2, hM.f3, hM.f4, hM.f5, hM.f6, hM.f8, hM.f10, hM.f12, hM.f13, hM.f25, hM.f27, hM.f28, hM.f36, hM.f37, hM.f38, hM.f40, hM.k0, hM.k1, hM.k2, hM.k3, hM.k4, hM.k13, hM.k14, hM.k15, hM.k16, hM.k17, hM.k26, hM.k51, hM.k52, hM.k53, hM.k54, hM.k55, hM.k56, hM.k57, hM.k58, hM.n1, hM.n2, hM.n3, hM.n4, hM.n13, hM.n14, hM.n15, hM.n16, hM.n17, hM.n26, hM.n51, hM.n52, hM.n53, hM.n54, hM.n55, hM.n56, hM.n57, hM.n58, vrf_s, true_or, or_true, true_and, and_true, and_self, not_false_eq_true, pu_s, pu_n, z2_e0, z2_n0, z2_t, z2_f, c135, rj_0_7, rj_0_4, rj_0_40, rj_0_5, rj_1_99, rj_1_9, rj_0_99, rj_0_9, rj_0_6, rj_0_3, rj_0_255, rj_1_24, rj_3_39, rj_0_1, rj_0_8, rj_0_2, rj_1_30, rj_0_14, rj_12_16, h0, Option.isSome_none, reduceIte]
    exact k134 (w := 0) hR hW (by decide) (by decide) (fun h2 q2 hR2 => by simp only [pu_s, v183_38]; exact kk h2 (MG.of q2 (fun a j z => by omega)) hR2)
  | some so' =>
    rw [h0] at kk
    obtain ⟨rfl, -, hso⟩ := rgI_s (by decide) (by decide) h0
    cases h1 : thI (sN (aS A)) t with
    | none =>
      rw [h1] at kk
      simp only [v183_0, v183_1, v183_2, v183_3, v183_6, v183_9, v183_12, v183_13, v183_14, v183_17, v183_20, v183_21, v183_22, v183_23, v183_26, v183_29, v183_32, v183_33, v183_35, v183_38, v183_39, v183_40, v183_41, v183_44, v183_45, v183_46, v183_47, v183_48, v183_49, v183_52, v183_53, v183_54, v183_55, v183_56, v183_57, v183_60, v183_61, v183_62, v183_63, v183_64, v183_65, v183_68, e183, hM.f0, hM.f1, hM.f2, hM.f3, hM.f4, hM.f5, hM.f6, hM.f8, hM.f10, hM.f12, hM.f13, hM.f25, hM.f27, hM.f28, hM.f36, hM.f37, hM.f38, hM.f40, hM.k0, hM.k1, hM.k2, hM.k3, hM.k4, hM.k13, hM.k14, hM.k15, hM.k16, hM.k17, hM.k26, hM.k51, hM.k52, hM.k53, hM.k54, hM.k55, hM.k56, hM.k57, hM.k58, hM.n1, hM.n2, hM.n3, hM.n4, hM.n13, hM.n14, hM.n15, hM.n16, hM.n17, hM.n26, hM.n51, hM.n52, hM.n53, hM.n54, hM.n55, hM.n56, hM.n57, hM.n58, vrf_s, true_or, or_true, true_and, and_true, and_self, not_false_eq_true, pu_s, pu_n, z2_e0, z2_n0, z2_t, z2_f, c135, rj_0_7, rj_0_4, rj_0_40, rj_0_5, rj_1_99, rj_1_9, rj_0_99, rj_0_9, rj_0_6, rj_0_3, rj_0_255, rj_1_24, rj_3_39, rj_0_1, rj_0_8, rj_0_2, rj_1_30, rj_0_14, rj_12_16, h0, Option.isSome_some, i10, k136 hR hW, h1, Option.isSome_none, reduceIte]
      exact k134 (w := 0) hR hW (by decide) (by decide) (fun h2 q2 hR2 => by simp only [pu_s, v183_38]; exact kk h2 (MG.of q2 (fun a j z => by omega)) hR2)
    | some t' =>
      rw [h1] at kk
      have hn := hW.1.1
      obtain ⟨rfl, ht⟩ := thI_s (by omega) h1
      cases h2 : rgI 0 8 d with
      | none =>
        rw [h2] at kk
        simp only [v183_0, v183_1, v183_2, v183_3, v183_6, v183_9, v183_12, v183_13, v183_14, v183_17, v183_20, v183_21, v183_22, v183_23, v183_26, v183_29, v183_32, v183_33, v183_35, v183_38, v183_39, v183_40, v183_41, v183_44, v183_45, v183_46, v183_47, v183_48, v183_49, v183_52, v183_53, v183_54, v183_55, v183_56, v183_57, v183_60, v183_61, v183_62, v183_63, v183_64, v183_65, v183_68, e183, hM.f0, hM.f1, hM.f2, hM.f3, hM.f4, hM.f5, hM.f6, hM.f8, hM.f10, hM.f12, hM.f13, hM.f25, hM.f27, hM.f28, hM.f36, hM.f37, hM.f38, hM.f40, hM.k0, hM.k1, hM.k2, hM.k3, hM.k4, hM.k13, hM.k14, hM.k15, hM.k16, hM.k17, hM.k26, hM.k51, hM.k52, hM.k53, hM.k54, hM.k55, hM.k56, hM.k57, hM.k58, hM.n1, hM.n2, hM.n3, hM.n4, hM.n13, hM.n14, hM.n15, hM.n16, hM.n17, hM.n26, hM.n51, hM.n52, hM.n53, hM.n54, hM.n55, hM.n56, hM.n57, hM.n58, vrf_s, true_or, or_true, true_and, and_true, and_self, not_false_eq_true, pu_s, pu_n, z2_e0, z2_n0, z2_t, z2_f, c135, rj_0_7, rj_0_4, rj_0_40, rj_0_5, rj_1_99, rj_1_9, rj_0_99, rj_0_9, rj_0_6, rj_0_3, rj_0_255, rj_1_24, rj_3_39, rj_0_1, rj_0_8, rj_0_2, rj_1_30, rj_0_14, rj_12_16, h0, Option.isSome_some, i10, k136 hR hW, h1, h2, Option.isSome_none, reduceIte]
        exact k134 (w := 0) hR hW (by decide) (by decide) (fun h2 q2 hR2 => by simp only [pu_s, v183_38]; exact kk h2 (MG.of q2 (fun a j z => by omega)) hR2)
      | some d' =>
        rw [h2] at kk
        obtain ⟨rfl, -, hd⟩ := rgI_s (by decide) (by decide) h2
        obtain ⟨t1, t2, t3⟩ := hM.th (show t' < 8 by omega)
        have c1 : (nI t').toNatClampNeg = t' := nIc (by omega)
        have i1 : inb (nI t') 8 = True := nIb (by omega) (by omega)
        have e0 := hP.t ht (k := 0) (by omega)
        have e1 := hP.t ht (k := 1) (by omega)
        have e4 := hP.t ht (k := 4) (by omega)
        obtain ⟨b0, -, b1, -, -, -, b4, -, -⟩ := hW.1.2.2.1 t' ht
        simp only [v183_0, v183_1, v183_2, v183_3, v183_6, v183_9, v183_12, v183_13, v183_14, v183_17, v183_20, v183_21, v183_22, v183_23, v183_26, v183_29, v183_32, v183_33, v183_35, v183_38, v183_39, v183_40, v183_41, v183_44, v183_45, v183_46, v183_47, v183_48, v183_49, v183_52, v183_53, v183_54, v183_55, v183_56, v183_57, v183_60, v183_61, v183_62, v183_63, v183_64, v183_65, v183_68, e183, hM.f0, hM.f1, hM.f2, hM.f3, hM.f4, hM.f5, hM.f6, hM.f8, hM.f10, hM.f12, hM.f13, hM.f25, hM.f27, hM.f28, hM.f36, hM.f37, hM.f38, hM.f40, hM.k0, hM.k1, hM.k2, hM.k3, hM.k4, hM.k13, hM.k14, hM.k15, hM.k16, hM.k17, hM.k26, hM.k51, hM.k52, hM.k53, hM.k54, hM.k55, hM.k56, hM.k57, hM.k58, hM.n1, hM.n2, hM.n3, hM.n4, hM.n13, hM.n14, hM.n15, hM.n16, hM.n17, hM.n26, hM.n51, hM.n52, hM.n53, hM.n54, hM.n55, hM.n56, hM.n57, hM.n58, vrf_s, true_or, or_true, true_and, and_true, and_self, not_false_eq_true, pu_s, pu_n, z2_e0, z2_n0, z2_t, z2_f, c135, rj_0_7, rj_0_4, rj_0_40, rj_0_5, rj_1_99, rj_1_9, rj_0_99, rj_0_9, rj_0_6, rj_0_3, rj_0_255, rj_1_24, rj_3_39, rj_0_1, rj_0_8, rj_0_2, rj_1_30, rj_0_14, rj_12_16, h0, Option.isSome_some, i10, k136 hR hW, h1, h2, reduceIte, t1, t2, t3, c1, i1, ib7_0, ib7_1, ib7_2, ib7_3, ib7_4, ib7_5, ib7_6, ib3_0, ib3_1, ib3_2, ib4_0, ib4_1, ib4_2, ib4_3, tc0, tc1, tc2, tc3, tc4, tc5, tc6, e0, e1, e4, c182, paF_N (show so' < 4 by omega) (show sT (aS A) t' 0 < 6 by omega) b1 b4 hd]
        exact kk h MG.rf hR
theorem k103 (hC : CL b A h) (hW : WF A) (kk : ∀ h2, Fr (CW b) h h2 → CL b (oClr A).1 h2 → K (some (.int (oClr A).2)) h2) : AM 103 [.ref b] h K := by
  obtain ⟨⟨cn, kb, f0, f1, f3, f4, f5, f6⟩, hST, hKP, hTR, hTA, ⟨s1, s2, s3⟩, hRF⟩ := id hC
  obtain ⟨ρ, β, hQ, hV, hO, -⟩ := id hST
  have y1 := hQ.1
  simp only [v103_0, v103_1, v103_4, v103_7, v103_8, v103_9, v103_12, v103_13, v103_16, v103_17, e103, kb, f0, f1, f3, f4, f5, f6, vrf_s, true_and, true_or, or_true, and_self, not_false_eq_true, pu_s, pu_n, z2_e0, z2_n0, z2_t, z2_f, y1, hV.2.1]
  have q3 : Fr (fun x j => x = b + 1 ∧ j = 3) h (pI h (b + 1) 3 0) := Fr.rf.pI ⟨rfl, rfl⟩
  obtain ⟨hQ2, hV2⟩ := SV.ct (n := 0) hQ hV hO (Nat.zero_le _) q3 (gI_at _ _ _ _)
  exact kk _ (q3.mo (fun x j z => by unfold CW; omega)) (hC.ss hW q3 (fun x j z => by omega) hQ2 hV2 (hO.ct (Nat.zero_le _)))
theorem MP.ct {s : SG} {n : Nat} (hP : MP m s h) (hO : SOk s) (hn : n ≤ sM s) : MP m (ctS s n) (pI h m 11 (nI n)) := by
  obtain ⟨p1, p2, p3, p4, p5⟩ := hP
  exact ⟨by rw [gI_ne (by omega)]; exact p1, gI_at _ _ _ _, fun t ht k hk => by rw [gI_ne (by omega)]; exact p3 t ht k hk, fun b hb k hk => by rw [gI_ne (by omega)]; exact p4 b (Nat.lt_of_lt_of_le hb hn) k hk, fun k hk => by rw [gI_ne (by omega)]; exact p5 k hk⟩
theorem k229 (hR : MR m u A h) (hW : WF A) (kk : ∀ (h2 : Hp) (u2 : LU), MG m h h2 → MR m u2 (oClr A).1 h2 → K (some (.int (oClr A).2)) h2) : AM 229 [.ref m] h K := by
  obtain ⟨r0, hM, hpp, hP, hQ, hS, hT, hF, hL⟩ := id hR
  simp only [v229_0, v229_1, v229_4, v229_5, v229_6, v229_7, v229_10, v229_11, e229, hM.f0, hM.f1, hM.f2, hM.f3, hM.f4, hM.f5, hM.f6, hM.f8, hM.f10, hM.f12, hM.f13, hM.f25, hM.f27, hM.f28, hM.f36, hM.f37, hM.f38, hM.f40, hM.k0, hM.k1, hM.k2, hM.k3, hM.k4, hM.k13, hM.k14, hM.k15, hM.k16, hM.k17, hM.k26, hM.k51, hM.k52, hM.k53, hM.k54, hM.k55, hM.k56, hM.k57, hM.k58, hM.n1, hM.n2, hM.n3, hM.n4, hM.n13, hM.n14, hM.n15, hM.n16, hM.n17, hM.n26, hM.n51, hM.n52, hM.n53, hM.n54, hM.n55, hM.n56, hM.n57, hM.n58, vrf_s, true_or, or_true, true_and, and_true, and_self, not_false_eq_true, hP.2.1]
  have q3 : Fr (fun x j => x = m ∧ j = 11) h (pI h m 11 0) := Fr.rf.pI ⟨rfl, rfl⟩
  exact kk _ u (MG.of q3 (fun x j z => by omega)) (hR.ss hW q3 (fun x j z => by omega) (hP.ct hW.1 (Nat.zero_le _)))
theorem k104 (hC : CL b A h) (hW : WF A) (v : Int32) (kk : ∀ h2, Fr (CW b) h h2 → CL b (oSed A v).1 h2 → K (some (.int (oSed A v).2)) h2) : AM 104 [.ref b, .int v] h K := by
  obtain ⟨⟨cn, kb, f0, f1, f3, f4, f5, f6⟩, hST, hKP, hTR, hTA, ⟨s1, s2, s3⟩, hRF⟩ := id hC
  obtain ⟨ρ, β, hQ, hV, hO, q5, q6, q7⟩ := id hST
  have y1 := hQ.1
  simp only [v104_0, v104_1, v104_4, v104_7, v104_8, v104_9, v104_12, v104_13, v104_16, v104_17, e104, kb, f0, f1, f3, f4, f5, f6, vrf_s, true_and, true_or, or_true, and_self, not_false_eq_true, pu_s, pu_n, z2_e0, z2_n0, z2_t, z2_f, y1, q7]
  have q3 : FI (fun x j => x = b + 1 ∧ j = 7) h (pI h (b + 1) 7 v) := FI.rf.pI ⟨rfl, rfl⟩
  obtain ⟨p1, p2, p3, p4, p5⟩ := hV
  have hn := hO.1
  have hm := hO.2.1
  refine kk _ (q3.1.mo (fun x j z => by unfold CW; omega)) (hC.us (s := aS A) (q := ((aQ A).1, (aQ A).2.1, v)) hW q3.1 (fun x j z => by omega) ⟨ρ, β, hQ.fi q3, ⟨(q3.i (fun z => by omega)).trans p1, (q3.i (fun z => by omega)).trans p2, fun t ht k hk => ?_, fun c hc k hk => ?_, fun k hk => (q3.i (fun z => by omega)).trans (p5 k hk)⟩, hO, (q3.i (fun z => by omega)).trans q5, (q3.i (fun z => by omega)).trans q6, gI_at _ _ _ _⟩)
  · obtain ⟨-, -, -, x4, x5⟩ := hQ.th (show t < 8 by omega)
    exact (q3.i (fun z => by omega)).trans (p3 t ht k hk)
  · obtain ⟨-, -, -, x4, x5⟩ := hQ.by (show c < 24 by omega)
    exact (q3.i (fun z => by omega)).trans (p4 c hc k hk)
theorem k230 (hR : MR m u A h) (hW : WF A) (v : Int32) (kk : ∀ (h2 : Hp) (u2 : LU), MG m h h2 → MR m u2 (oSed A v).1 h2 → K (some (.int (oSed A v).2)) h2) : AM 230 [.ref m, .int v] h K := by
  obtain ⟨r0, hM, hpp, hP, hQ, hS, hT, hF, hL⟩ := id hR
  simp only [v230_0, v230_1, v230_4, v230_5, v230_6, v230_7, v230_10, v230_11, e230, hM.f0, hM.f1, hM.f2, hM.f3, hM.f4, hM.f5, hM.f6, hM.f8, hM.f10, hM.f12, hM.f13, hM.f25, hM.f27, hM.f28, hM.f36, hM.f37, hM.f38, hM.f40, hM.k0, hM.k1, hM.k2, hM.k3, hM.k4, hM.k13, hM.k14, hM.k15, hM.k16, hM.k17, hM.k26, hM.k51, hM.k52, hM.k53, hM.k54, hM.k55, hM.k56, hM.k57, hM.k58, hM.n1, hM.n2, hM.n3, hM.n4, hM.n13, hM.n14, hM.n15, hM.n16, hM.n17, hM.n26, hM.n51, hM.n52, hM.n53, hM.n54, hM.n55, hM.n56, hM.n57, hM.n58, vrf_s, true_or, or_true, true_and, and_true, and_self, not_false_eq_true, hQ.2.2]
  have q3 : Fr (fun x j => x = m ∧ j = 16) h (pI h m 16 v) := Fr.rf.pI ⟨rfl, rfl⟩
  exact kk _ u (MG.of q3 (fun x j z => by omega)) (hR.upd (s := aS A) (q := ((aQ A).1, (aQ A).2.1, v)) hW q3 (fun x j z => by unfold MY; omega) (hpp.fr q3 (fun j _ _ z => by omega)) (hP.fr hW.1 q3 (fun x j z => ⟨fun y => by omega, fun y => by omega, fun y => by omega⟩)) ⟨(q3.i (fun z => by omega)).trans hQ.1, (q3.i (fun z => by omega)).trans hQ.2.1, gI_at _ _ _ _⟩)
end
