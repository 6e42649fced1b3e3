/-! buyer, change, ask, on both sides -/
theorem l20 : ((2 : Int32) = 0) = False := eq_false (by decide)
theorem l21 : ((2 : Int32) = 1) = False := eq_false (by decide)
theorem l30 : ((3 : Int32) = 0) = False := eq_false (by decide)
theorem l31 : ((3 : Int32) = 1) = False := eq_false (by decide)
theorem l32 : ((3 : Int32) = 2) = False := eq_false (by decide)
theorem l03 : ((0 : Int32) = 3) = False := eq_false (by decide)
theorem l13 : ((1 : Int32) = 3) = False := eq_false (by decide)
theorem l23 : ((2 : Int32) = 3) = False := eq_false (by decide)
theorem l12 : ((1 : Int32) = 2) = False := eq_false (by decide)
theorem l02 : ((0 : Int32) = 2) = False := eq_false (by decide)
theorem l01 : ((0 : Int32) = 1) = False := eq_false (by decide)
theorem o41 : Int32.ofNat 4 - 1 = 3 := by decide
def oByr (A : XA) (hr so pu : Int32) : XA × Int32 := match rgI 0 6 hr with
  | none => rfI A 0 (-2)
  | some hr => match rgI 0 3 so with
    | none => rfI A 0 (-2)
    | some so => match rgI 1 99 pu with
      | none => rfI A 0 (-2)
      | some pu => if sM (aS A) = 24 then rfI A 4 (-6) else (wS A (sgB (aS A) hr so pu), nI (plN (aS A) hr))
def clC (w : Nat) : Nat := if w = 0 then 1 else if w = 1 then 3 else if w = 2 then 5 else 6
def loC (w : Nat) : Nat := if w = 0 then 1 else 0
def hiC (w : Nat) : Nat := if w = 3 then 7 else 99
def oChg (A : XA) (t w v : Int32) : XA × Int32 := match thI (sN (aS A)) t with
  | none => rfI A 0 (-2)
  | some t => match rgI 0 3 w with
    | none => rfI A 0 (-2)
    | some w => match rgI (loC w) (hiC w) v with
      | none => rfI A 0 (-2)
      | some v => (wS A (sgT (aS A) t (clC w) v), nI (sT (aS A) t (clC w)))
def oAsk (A : XA) (w v : Int32) : XA × Int32 := match rgI 0 3 w with
  | none => rfI A 0 (-2)
  | some w => match rgI (loA w) (hiA w) v with
    | none => rfI A 0 (-2)
    | some v => (wS A (sgA (aS A) w v), nI (sA (aS A) w))
theorem SOk.chg {s : SG} (hO : SOk s) {t w v : Nat} (hw : w < 4) (h1 : loC w ≤ v) (h2 : v ≤ hiC w) : SOk (sgT s t (clC w) v) := by
  have hw' : w = 0 ∨ w = 1 ∨ w = 2 ∨ w = 3 := by omega
  have n : ∀ k u j, j ≠ k → sT (sgT s t k v) u j = sT s u j := fun k u j hj => by
    show up (sT s) t (up (sT s t) k v) u j = _
    by_cases h : u = t
    · subst h; rw [up_at, up_ne hj]
    · rw [up_ne h]
  have m : ∀ k u, sT (sgT s t k v) u k = v ∨ sT (sgT s t k v) u k = sT s u k := fun k u => by
    show up (sT s) t (up (sT s t) k v) u k = v ∨ up (sT s) t (up (sT s t) k v) u k = _
    by_cases h : u = t
    · subst h; rw [up_at, up_at]; exact Or.inl rfl
    · rw [up_ne h]; exact Or.inr rfl
  obtain ⟨o1, o2, o3, o4⟩ := id hO
  rcases hw' with rfl | rfl | rfl | rfl
  · change 1 ≤ v at h1
    change v ≤ 99 at h2
    refine ⟨o1, o2, fun u hu => ?_, o4⟩
    have o5 := o3 u hu
    have m5 := m 1 u
    show sT (sgT s t 1 v) u 0 ≤ 5 ∧ 1 ≤ sT (sgT s t 1 v) u 1 ∧ sT (sgT s t 1 v) u 1 ≤ 99 ∧ 1 ≤ sT (sgT s t 1 v) u 2 ∧ sT (sgT s t 1 v) u 2 ≤ 9 ∧ sT (sgT s t 1 v) u 3 ≤ 99 ∧ sT (sgT s t 1 v) u 4 ≤ 9 ∧ sT (sgT s t 1 v) u 5 ≤ 99 ∧ sT (sgT s t 1 v) u 6 ≤ 7
    rw [n 1 u 0 (by decide), n 1 u 2 (by decide), n 1 u 3 (by decide), n 1 u 4 (by decide), n 1 u 5 (by decide), n 1 u 6 (by decide)]
    omega
  · change v ≤ 99 at h2
    refine ⟨o1, o2, fun u hu => ?_, o4⟩
    have o5 := o3 u hu
    have m5 := m 3 u
    show sT (sgT s t 3 v) u 0 ≤ 5 ∧ 1 ≤ sT (sgT s t 3 v) u 1 ∧ sT (sgT s t 3 v) u 1 ≤ 99 ∧ 1 ≤ sT (sgT s t 3 v) u 2 ∧ sT (sgT s t 3 v) u 2 ≤ 9 ∧ sT (sgT s t 3 v) u 3 ≤ 99 ∧ sT (sgT s t 3 v) u 4 ≤ 9 ∧ sT (sgT s t 3 v) u 5 ≤ 99 ∧ sT (sgT s t 3 v) u 6 ≤ 7
    rw [n 3 u 0 (by decide), n 3 u 1 (by decide), n 3 u 2 (by decide), n 3 u 4 (by decide), n 3 u 5 (by decide), n 3 u 6 (by decide)]
    omega
  · exact hO.set (Or.inl ⟨rfl, rfl⟩) h2
  · exact hO.set (Or.inr ⟨rfl, rfl⟩) h2
section
variable {b m : Nat} {u : LU} {A : XA} {ρ β : Nat → Nat} {s : SG} {F : Nat → Nat → Prop} {h h1 h2 : Hp} {K : Option Value → Hp → Prop}
/-- the class's stall has changed -/
theorem CL.ss (hC : CL b A h) (hW : WF A) (w : Fr F h h2) (hF : ∀ x j, F x j → b + 1 ≤ x ∧ x < b + 37 ∧ ¬ (x = b + 1 ∧ 5 ≤ j)) (hQ : SQ (b + 1) ρ β h2) (hV : SV (b + 1) ρ β s h2) (hO : SOk s) : CL b (wS A s) h2 := by
  obtain ⟨-, ⟨-, -, -, -, -, q5, q6, q7⟩, -⟩ := id hC
  exact hC.us (q := aQ A) hW w (fun x j z => by have := hF x j z; omega) ⟨ρ, β, hQ, hV, hO, (w.i (fun z => by have := hF _ _ z; omega)).trans q5, (w.i (fun z => by have := hF _ _ z; omega)).trans q6, (w.i (fun z => by have := hF _ _ z; omega)).trans q7⟩
/-- the reference's stall has changed -/
theorem MR.ss (hR : MR m u A h) (hW : WF A) (w : Fr F h h2) (hF : ∀ a j, F a j → (a = m ∧ (j = 9 ∨ j = 11)) ∨ (m + 18 ≤ a ∧ a < m + 26) ∨ (m + 27 ≤ a ∧ a ≤ m + 51)) (hP : MP m s h2) : MR m u (wS A s) h2 := by
  obtain ⟨r0, hM, hpp, -, hQ, hS, hT, hF2, hL⟩ := id hR
  exact hR.upd (q := aQ A) hW w (fun a j z => by have := hF a j z; unfold MY; omega) (hpp.fr w (fun j _ _ z => by have := hF _ _ z; omega)) hP (hQ.fr w (fun j _ _ z => by have := hF _ _ z; omega))
theorem k62 (hC : CL b A h) (hW : WF A) (hr so pu : Int32) (kk : ∀ h2, Fr (CW b) h h2 → CL b (oByr A hr so pu).1 h2 → K (some (.int (oByr A hr so pu).2)) h2) : AM 62 [.ref b, .int hr, .int so, .int pu] h K := by
  obtain ⟨⟨cn, kb, f0, f1, f3, f4, f5, f6⟩, hST, hKP, hTR, hTA, ⟨s1, s2, s3⟩, hRF⟩ := id hC
  unfold oByr at kk
  cases h0 : rgI 0 6 hr with
  | none =>
    rw [h0] at kk
    simp only [v62_0, v62_1, v62_2, v62_5, v62_8, v62_9, v62_10, v62_13, v62_16, v62_17, v62_18, v62_21, v62_24, v62_25, v62_27, v62_30, v62_31, v62_32, v62_35, v62_38, v62_40, v62_43, v62_44, v62_46, v62_49, v62_50, v62_51, v62_54, v62_55, v62_56, v62_57, v62_60, e62, kb, f0, f1, f3, f4, f5, f6, vrf_s, true_and, true_or, or_true, and_self, not_false_eq_true, pu_s, pu_n, z2_e0, z2_n0, z2_t, z2_f, c125_0 cn, h0, Option.isSome_none, reduceIte]
    exact k108 (w := 0) hC hW (by decide) (by decide) (fun h2 q2 hC2 => by simp only [pu_s, v62_30]; exact kk h2 q2 hC2)
  | some hr' =>
    rw [h0] at kk
    cases h1 : rgI 0 3 so with
    | none =>
      rw [h1] at kk
      simp only [v62_0, v62_1, v62_2, v62_5, v62_8, v62_9, v62_10, v62_13, v62_16, v62_17, v62_18, v62_21, v62_24, v62_25, v62_27, v62_30, v62_31, v62_32, v62_35, v62_38, v62_40, v62_43, v62_44, v62_46, v62_49, v62_50, v62_51, v62_54, v62_55, v62_56, v62_57, v62_60, e62, kb, f0, f1, f3, f4, f5, f6, vrf_s, true_and, true_or, or_true, and_self, not_false_eq_true, pu_s, pu_n, z2_e0, z2_n0, z2_t, z2_f, c125_0 cn, c125_1 cn, h0, h1, Option.isSome_none, Option.isSome_some, i10, reduceIte]
      exact k108 (w := 0) hC hW (by decide) (by decide) (fun h2 q2 hC2 => by simp only [pu_s, v62_30]; exact kk h2 q2 hC2)
    | some so' =>
      rw [h1] at kk
      cases h2 : rgI 1 99 pu with
      | none =>
        rw [h2] at kk
        simp only [v62_0, v62_1, v62_2, v62_5, v62_8, v62_9, v62_10, v62_13, v62_16, v62_17, v62_18, v62_21, v62_24, v62_25, v62_27, v62_30, v62_31, v62_32, v62_35, v62_38, v62_40, v62_43, v62_44, v62_46, v62_49, v62_50, v62_51, v62_54, v62_55, v62_56, v62_57, v62_60, e62, kb, f0, f1, f3, f4, f5, f6, vrf_s, true_and, true_or, or_true, and_self, not_false_eq_true, pu_s, pu_n, z2_e0, z2_n0, z2_t, z2_f, c125_0 cn, c125_1 cn, c125_2 cn, h0, h1, h2, Option.isSome_none, Option.isSome_some, i10, reduceIte]
        exact k108 (w := 0) hC hW (by decide) (by decide) (fun h2 q2 hC2 => by simp only [pu_s, v62_30]; exact kk h2 q2 hC2)
      | some pu' =>
        rw [h2] at kk
        dsimp only at kk
        obtain ⟨ρ, β, hQ, hV, hO, -⟩ := id hST
        have sk := hQ.1
        have hm := hO.2.1
        have e8 : (nI (sM (aS A)) < 24) = (sM (aS A) < 24) := nltN (c := 24) (by omega) (by decide)
        by_cases g : sM (aS A) = 24
        · rw [if_pos g] at kk
          have g2 : (sM (aS A) < 24) = False := eq_false (by omega)
          simp only [v62_0, v62_1, v62_2, v62_5, v62_8, v62_9, v62_10, v62_13, v62_16, v62_17, v62_18, v62_21, v62_24, v62_25, v62_27, v62_30, v62_31, v62_32, v62_35, v62_38, v62_40, v62_43, v62_44, v62_46, v62_49, v62_50, v62_51, v62_54, v62_55, v62_56, v62_57, v62_60, e62, kb, f0, f1, f3, f4, f5, f6, vrf_s, true_and, true_or, or_true, and_self, not_false_eq_true, pu_s, pu_n, z2_e0, z2_n0, z2_t, z2_f, c125_0 cn, c125_1 cn, c125_2 cn, h0, h1, h2, Option.isSome_some, i10, reduceIte, sk, hV.2.1, e8, g2]
          exact k108 (w := 4) hC hW (by decide) (by decide) (fun h2 q2 hC2 => by simp only [pu_s, v62_49]; exact kk h2 q2 hC2)
        · rw [if_neg g] at kk
          have g2 : (sM (aS A) < 24) = True := eq_true (by omega)
          simp only [v62_0, v62_1, v62_2, v62_5, v62_8, v62_9, v62_10, v62_13, v62_16, v62_17, v62_18, v62_21, v62_24, v62_25, v62_27, v62_30, v62_31, v62_32, v62_35, v62_38, v62_40, v62_43, v62_44, v62_46, v62_49, v62_50, v62_51, v62_54, v62_55, v62_56, v62_57, v62_60, e62, kb, f0, f1, f3, f4, f5, f6, vrf_s, true_and, true_or, or_true, and_self, not_false_eq_true, pu_s, pu_n, z2_e0, z2_n0, z2_t, z2_f, c125_0 cn, c125_1 cn, c125_2 cn, h0, h1, h2, Option.isSome_some, i10, reduceIte, sk, hV.2.1, e8, g2]
          obtain ⟨rfl, -, a2⟩ := rgI_s (by decide) (by decide) h0
          obtain ⟨rfl, -, b2⟩ := rgI_s (by decide) (by decide) h1
          obtain ⟨rfl, c1, c2⟩ := rgI_s (by decide) (by decide) h2
          refine c22 hQ hV hO (by omega) a2 (fun h2 q2 hQ2 hV2 => ?_)
          simp only [pu_s, v62_60]
          exact kk h2 (q2.mo (fun x j z => by unfold BV at z; unfold CW; omega)) (hC.ss hW q2 (fun x j z => by unfold BV at z; omega) hQ2 hV2 (hO.buy (by omega) a2 b2 ⟨c1, c2⟩))
theorem c150 (x y z : Int64) : AM 150 [.long x, .long y, .long z] h K = K (some (.int (z2 (inJ x 0 6 && inJ y 0 3 && inJ z 1 99)))) h := by
  cases g1 : inJ x 0 6 with
  | false => simp only [v150_0, v150_1, v150_2, v150_5, v150_8, v150_11, v150_12, v150_13, v150_16, v150_19, v150_22, v150_24, v150_25, v150_28, v150_31, v150_34, v150_35, v150_38, v150_39, e150, c135, pu_s, pu_n, z2_e0, z2_n0, z2_t, z2_f, g1, reduceIte, bo_0, true_and, Bool.false_and]
  | true =>
    cases g2 : inJ y 0 3 with
    | false => simp only [v150_0, v150_1, v150_2, v150_5, v150_8, v150_11, v150_12, v150_13, v150_16, v150_19, v150_22, v150_24, v150_25, v150_28, v150_31, v150_34, v150_35, v150_38, v150_39, e150, c135, pu_s, pu_n, z2_e0, z2_n0, z2_t, z2_f, g1, g2, i10, reduceIte, bo_0, true_and, Bool.false_and, Bool.true_and]
    | true =>
      cases g3 : inJ z 1 99 with
      | false => simp only [v150_0, v150_1, v150_2, v150_5, v150_8, v150_11, v150_12, v150_13, v150_16, v150_19, v150_22, v150_24, v150_25, v150_28, v150_31, v150_34, v150_35, v150_38, v150_39, e150, c135, pu_s, pu_n, z2_e0, z2_n0, z2_t, z2_f, g1, g2, g3, i10, reduceIte, bo_0, true_and, Bool.true_and]
      | true => simp only [v150_0, v150_1, v150_2, v150_5, v150_8, v150_11, v150_12, v150_13, v150_16, v150_19, v150_22, v150_24, v150_25, v150_28, v150_31, v150_34, v150_35, v150_38, v150_39, e150, c135, pu_s, pu_n, z2_e0, z2_n0, z2_t, z2_f, g1, g2, g3, i10, reduceIte, bo_1, true_and, Bool.true_and]
theorem k152 (hR : MR m u A h) (hW : WF A) (hr so pu : Int32) (kk : ∀ (h2 : Hp) (u2 : LU), MG m h h2 → MR m u2 (oByr A hr so pu).1 h2 → K (some (.int (oByr A hr so pu).2)) h2) : AM 152 [.ref m, .int hr, .int so, .int pu] h K := by
  obtain ⟨r0, hM, hpp, hP, hQ, hS, hT, hF, hL⟩ := id hR
  unfold oByr at kk
  replace kk := fun h2 => kk h2 u
  have bad : (∀ h2, MG m h h2 → MR m u (rfu A 0) h2 → K (some (.int (-2))) h2) → (rgI 0 6 hr).isSome = false ∨ (rgI 0 3 so).isSome = false ∨ (rgI 1 99 pu).isSome = false → AM 152 [.ref m, .int hr, .int so, .int pu] h K := by
    intro k2 hb
    have e : ((rgI 0 6 hr).isSome && (rgI 0 3 so).isSome && (rgI 1 99 pu).isSome) = false := by
      rcases hb with z | z | z <;> rw [z] <;> simp
    simp only [v152_0, v152_1, v152_2, v152_3, v152_4, v152_5, v152_6, v152_9, v152_12, v152_13, v152_15, v152_18, v152_19, v152_20, v152_23, v152_25, v152_28, v152_29, v152_31, v152_34, v152_37, v152_38, v152_39, v152_40, v152_41, v152_44, e152, hM.f0, hM.f1, hM.f2, hM.f3, hM.f4, hM.f5, hM.f6, hM.f8, hM.f10, hM.f12, hM.f13, hM.f25, hM.f27, hM.f28, hM.f36, hM.f37, hM.f38, hM.f40, hM.k0, hM.k1, hM.k2, hM.k3, hM.k4, hM.k13, hM.k14, hM.k15, hM.k16, hM.k17, hM.k26, hM.k51, hM.k52, hM.k53, hM.k54, hM.k55, hM.k56, hM.k57, hM.k58, hM.n1, hM.n2, hM.n3, hM.n4, hM.n13, hM.n14, hM.n15, hM.n16, hM.n17, hM.n26, hM.n51, hM.n52, hM.n53, hM.n54, hM.n55, hM.n56, hM.n57, hM.n58, vrf_s, true_or, or_true, true_and, and_true, and_self, not_false_eq_true, pu_s, pu_n, z2_e0, z2_n0, z2_t, z2_f, c150, rj_0_7, rj_0_4, rj_0_40, rj_0_5, rj_1_99, rj_1_9, rj_0_99, rj_0_9, rj_0_6, rj_0_3, rj_0_255, rj_1_24, rj_3_39, rj_0_1, rj_0_8, rj_0_2, rj_1_30, rj_0_14, rj_12_16, e, reduceIte]
    exact k134 (w := 0) hR hW (by decide) (by decide) (fun h2 q2 hR2 => by simp only [pu_s, v152_18]; exact k2 h2 (MG.of q2 (fun a j z => by omega)) hR2)
  cases h0 : rgI 0 6 hr with
  | none =>
    rw [h0] at kk bad
    exact bad kk (Or.inl rfl)
  | some hr' =>
    rw [h0] at kk bad
    cases h1 : rgI 0 3 so with
    | none =>
      rw [h1] at kk bad
      exact bad kk (Or.inr (Or.inl rfl))
    | some so' =>
      rw [h1] at kk bad
      cases h2 : rgI 1 99 pu with
      | none =>
        rw [h2] at kk bad
        exact bad kk (Or.inr (Or.inr rfl))
      | some pu' =>
        rw [h2] at kk
        dsimp only at kk
        have hO := hW.1
        have hm := hO.2.1
        have e8 : (nI (sM (aS A)) = 24) = (sM (aS A) = 24) := neqN (c := 24) (by omega) (by decide)
        by_cases g : sM (aS A) = 24
        · rw [if_pos g] at kk
          simp only [v152_0, v152_1, v152_2, v152_3, v152_4, v152_5, v152_6, v152_9, v152_12, v152_13, v152_15, v152_18, v152_19, v152_20, v152_23, v152_25, v152_28, v152_29, v152_31, v152_34, v152_37, v152_38, v152_39, v152_40, v152_41, v152_44, e152, hM.f0, hM.f1, hM.f2, hM.f3, hM.f4, hM.f5, hM.f6, hM.f8, hM.f10, hM.f12, hM.f13, hM.f25, hM.f27, hM.f28, hM.f36, hM.f37, hM.f38, hM.f40, hM.k0, hM.k1, hM.k2, hM.k3, hM.k4, hM.k13, hM.k14, hM.k15, hM.k16, hM.k17, hM.k26, hM.k51, hM.k52, hM.k53, hM.k54, hM.k55, hM.k56, hM.k57, hM.k58, hM.n1, hM.n2, hM.n3, hM.n4, hM.n13, hM.n14, hM.n15, hM.n16, hM.n17, hM.n26, hM.n51, hM.n52, hM.n53, hM.n54, hM.n55, hM.n56, hM.n57, hM.n58, vrf_s, true_or, or_true, true_and, and_true, and_self, not_false_eq_true, pu_s, pu_n, z2_e0, z2_n0, z2_t, z2_f, c150, rj_0_7, rj_0_4, rj_0_40, rj_0_5, rj_1_99, rj_1_9, rj_0_99, rj_0_9, rj_0_6, rj_0_3, rj_0_255, rj_1_24, rj_3_39, rj_0_1, rj_0_8, rj_0_2, rj_1_30, rj_0_14, rj_12_16, h0, h1, h2, Option.isSome_some, Bool.and_self, i10, reduceIte, hP.2.1, e8, g, not_true_eq_false]
          exact k134 (w := 4) hR hW (by decide) (by decide) (fun h2 q2 hR2 => by simp only [pu_s, v152_34, v152_44]; exact kk h2 (MG.of q2 (fun a j z => by omega)) hR2)
        · rw [if_neg g] at kk
          simp only [v152_0, v152_1, v152_2, v152_3, v152_4, v152_5, v152_6, v152_9, v152_12, v152_13, v152_15, v152_18, v152_19, v152_20, v152_23, v152_25, v152_28, v152_29, v152_31, v152_34, v152_37, v152_38, v152_39, v152_40, v152_41, v152_44, e152, hM.f0, hM.f1, hM.f2, hM.f3, hM.f4, hM.f5, hM.f6, hM.f8, hM.f10, hM.f12, hM.f13, hM.f25, hM.f27, hM.f28, hM.f36, hM.f37, hM.f38, hM.f40, hM.k0, hM.k1, hM.k2, hM.k3, hM.k4, hM.k13, hM.k14, hM.k15, hM.k16, hM.k17, hM.k26, hM.k51, hM.k52, hM.k53, hM.k54, hM.k55, hM.k56, hM.k57, hM.k58, hM.n1, hM.n2, hM.n3, hM.n4, hM.n13, hM.n14, hM.n15, hM.n16, hM.n17, hM.n26, hM.n51, hM.n52, hM.n53, hM.n54, hM.n55, hM.n56, hM.n57, hM.n58, vrf_s, true_or, or_true, true_and, and_true, and_self, not_false_eq_true, pu_s, pu_n, z2_e0, z2_n0, z2_t, z2_f, c150, rj_0_7, rj_0_4, rj_0_40, rj_0_5, rj_1_99, rj_1_9, rj_0_99, rj_0_9, rj_0_6, rj_0_3, rj_0_255, rj_1_24, rj_3_39, rj_0_1, rj_0_8, rj_0_2, rj_1_30, rj_0_14, rj_12_16, h0, h1, h2, Option.isSome_some, Bool.and_self, i10, reduceIte, hP.2.1, e8, g]
          obtain ⟨rfl, -, a2⟩ := rgI_s (by decide) (by decide) h0
          obtain ⟨rfl, -, b2⟩ := rgI_s (by decide) (by decide) h1
          obtain ⟨rfl, c1, c2⟩ := rgI_s (by decide) (by decide) h2
          refine c151 hM hP hO (by omega) a2 (fun h2 q2 hP2 => ?_)
          simp only [pu_s, v152_44]
          exact kk h2 (MG.of q2 (fun x j z => by unfold BX at z; omega)) (hR.ss hW q2 (fun x j z => by unfold BX at z; omega) hP2)
theorem clC_lt {w : Nat} (hw : w ≤ 3) : clC w < 7 := by unfold clC; split <;> (try split) <;> (try split) <;> omega
theorem k64 (hC : CL b A h) (hW : WF A) (t w v : Int32) (kk : ∀ h2, Fr (CW b) h h2 → CL b (oChg A t w v).1 h2 → K (some (.int (oChg A t w v).2)) h2) : AM 64 [.ref b, .int t, .int w, .int v] h K := by
  obtain ⟨⟨cn, kb, f0, f1, f3, f4, f5, f6⟩, hST, hKP, hTR, hTA, ⟨s1, s2, s3⟩, hRF⟩ := id hC
  unfold oChg at kk
  obtain ⟨a6, x1, x2, x3, x4⟩ := cn.tb (j := 6) (by decide)
  have n6 : gN h a6 = 4 := x3
  cases h0 : thI (sN (aS A)) t with
  | none =>
    rw [h0] at kk
    simp only [v64_0, v64_1, v64_2, v64_5, v64_8, v64_9, v64_10, v64_13, v64_14, v64_15, v64_16, v64_19, v64_22, v64_25, v64_26, v64_27, v64_28, v64_31, v64_34, v64_35, v64_37, v64_40, v64_41, v64_42, v64_45, v64_48, v64_49, v64_50, v64_53, v64_54, v64_55, v64_56, v64_58, v64_59, v64_62, v64_65, v64_66, v64_67, v64_70, v64_71, v64_72, v64_73, v64_74, v64_76, e64, kb, f0, f1, f3, f4, f5, f6, vrf_s, true_and, true_or, or_true, and_self, not_false_eq_true, pu_s, pu_n, z2_e0, z2_n0, z2_t, z2_f, k111 hC hW, h0, Option.isSome_none, reduceIte]
    exact k108 (w := 0) hC hW (by decide) (by decide) (fun h2 q2 hC2 => by simp only [pu_s, v64_40]; exact kk h2 q2 hC2)
  | some t' =>
    rw [h0] at kk
    have hn := hW.1.1
    obtain ⟨rfl, ht⟩ := thI_s (by omega) h0
    cases h1 : rgI 0 3 w with
    | none =>
      rw [h1] at kk
      simp only [v64_0, v64_1, v64_2, v64_5, v64_8, v64_9, v64_10, v64_13, v64_14, v64_15, v64_16, v64_19, v64_22, v64_25, v64_26, v64_27, v64_28, v64_31, v64_34, v64_35, v64_37, v64_40, v64_41, v64_42, v64_45, v64_48, v64_49, v64_50, v64_53, v64_54, v64_55, v64_56, v64_58, v64_59, v64_62, v64_65, v64_66, v64_67, v64_70, v64_71, v64_72, v64_73, v64_74, v64_76, e64, kb, f0, f1, f3, f4, f5, f6, vrf_s, true_and, true_or, or_true, and_self, not_false_eq_true, pu_s, pu_n, z2_e0, z2_n0, z2_t, z2_f, k111 hC hW, h0, Option.isSome_some, i10, reduceIte, x1, x2, n6, o41, c123, ri_0_7, ri_0_4, ri_0_40, ri_0_5, ri_1_99, ri_1_9, ri_0_99, ri_0_9, ri_0_6, ri_0_3, ri_0_255, ri_1_24, ri_3_39, ri_0_1, ri_0_8, ri_0_2, ri_1_30, ri_0_14, ri_12_16, h1, Option.isSome_none]
      exact k108 (w := 0) hC hW (by decide) (by decide) (fun h2 q2 hC2 => by simp only [pu_s, v64_40]; exact kk h2 q2 hC2)
    | some w' =>
      rw [h1] at kk
      dsimp only at kk
      obtain ⟨rfl, -, hw⟩ := rgI_s (by decide) (by decide) h1
      have cw : (nI w').toNatClampNeg = w' := nIc (by omega)
      have iw : inb (nI w') 4 = True := nIb (by omega) (by omega)
      have hcl := clC_lt hw
      have hw' : w' = 0 ∨ w' = 1 ∨ w' = 2 ∨ w' = 3 := by omega
      have ew : gI h a6 w' = nI (clC w') := by
        rw [x4 w' (show w' < 4 by omega)]
        rcases hw' with rfl | rfl | rfl | rfl <;> rfl
      have hlh : tbv 2 (clC w') = nI (loC w') ∧ tbv 3 (clC w') = nI (hiC w') := by
        rcases hw' with rfl | rfl | rfl | rfl <;> exact ⟨rfl, rfl⟩
      have c4 := fun (K : Option Value → Hp → Prop) => c124 (K := K) cn (clC w') hcl v
      rw [n124 v (clC w') (loC w') (hiC w') hlh.1 hlh.2] at c4
      cases h2 : rgI (loC w') (hiC w') v with
      | none =>
        rw [h2] at kk c4
        simp only [v64_0, v64_1, v64_2, v64_5, v64_8, v64_9, v64_10, v64_13, v64_14, v64_15, v64_16, v64_19, v64_22, v64_25, v64_26, v64_27, v64_28, v64_31, v64_34, v64_35, v64_37, v64_40, v64_41, v64_42, v64_45, v64_48, v64_49, v64_50, v64_53, v64_54, v64_55, v64_56, v64_58, v64_59, v64_62, v64_65, v64_66, v64_67, v64_70, v64_71, v64_72, v64_73, v64_74, v64_76, e64, kb, f0, f1, f3, f4, f5, f6, vrf_s, true_and, true_or, or_true, and_self, not_false_eq_true, pu_s, pu_n, z2_e0, z2_n0, z2_t, z2_f, k111 hC hW, h0, Option.isSome_some, i10, reduceIte, x1, x2, n6, o41, c123, ri_0_7, ri_0_4, ri_0_40, ri_0_5, ri_1_99, ri_1_9, ri_0_99, ri_0_9, ri_0_6, ri_0_3, ri_0_255, ri_1_24, ri_3_39, ri_0_1, ri_0_8, ri_0_2, ri_1_30, ri_0_14, ri_12_16, h1, cw, iw, ew, c4, Option.isSome_none]
        exact k108 (w := 0) hC hW (by decide) (by decide) (fun h2 q2 hC2 => by simp only [pu_s, v64_40]; exact kk h2 q2 hC2)
      | some v' =>
        rw [h2] at kk c4
        obtain ⟨rfl, v1, v2⟩ := rgI_s (by unfold loC; split <;> omega) (by unfold hiC; split <;> omega) h2
        obtain ⟨ρ, β, hQ, hV, hO, -⟩ := id hST
        obtain ⟨y1, y2, y3, y4, y5, y6, y7, y8, y9, y10, -⟩ := id hQ
        obtain ⟨u1, u2, u3, u4, u5⟩ := hQ.th (show t' < 8 by omega)
        have c1 : (nI t').toNatClampNeg = t' := nIc (by omega)
        have i1 : inb (nI t') 8 = True := nIb (by omega) (by omega)
        have cc : (nI (clC w')).toNatClampNeg = clC w' := nIc (by omega)
        have ic : inb (nI (clC w')) 7 = True := nIb (by omega) (by omega)
        have ee := hV.t ht hcl
        simp only [v64_0, v64_1, v64_2, v64_5, v64_8, v64_9, v64_10, v64_13, v64_14, v64_15, v64_16, v64_19, v64_22, v64_25, v64_26, v64_27, v64_28, v64_31, v64_34, v64_35, v64_37, v64_40, v64_41, v64_42, v64_45, v64_48, v64_49, v64_50, v64_53, v64_54, v64_55, v64_56, v64_58, v64_59, v64_62, v64_65, v64_66, v64_67, v64_70, v64_71, v64_72, v64_73, v64_74, v64_76, e64, kb, f0, f1, f3, f4, f5, f6, vrf_s, true_and, true_or, or_true, and_self, not_false_eq_true, pu_s, pu_n, z2_e0, z2_n0, z2_t, z2_f, k111 hC hW, h0, Option.isSome_some, i10, reduceIte, x1, x2, n6, o41, c123, ri_0_7, ri_0_4, ri_0_40, ri_0_5, ri_1_99, ri_1_9, ri_0_99, ri_0_9, ri_0_6, ri_0_3, ri_0_255, ri_1_24, ri_3_39, ri_0_1, ri_0_8, ri_0_2, ri_1_30, ri_0_14, ri_12_16, h1, cw, iw, ew, c4, y1, y2, y5, y6, c1, i1, u1, u2, u3, cc, ic, ee]
        have q3 : FI (fun x j => b + 3 ≤ x ∧ x < b + 11) h (pI h (ρ t') (clC w') (nI v')) := FI.rf.pI ⟨by omega, by omega⟩
        exact kk _ (q3.1.mo (fun x j z => by unfold CW; omega)) (hC.ss hW q3.1 (fun x j z => by omega) (hQ.fi q3) (SV.set hQ hV hO ht) (hO.chg (by omega) v1 v2))
theorem k155 (hR : MR m u A h) (hW : WF A) (t w v : Int32) (kk : ∀ (h2 : Hp) (u2 : LU), MG m h h2 → MR m u2 (oChg A t w v).1 h2 → K (some (.int (oChg A t w v).2)) h2) : AM 155 [.ref m, .int t, .int w, .int v] h K := by
  obtain ⟨r0, hM, hpp, hP, hQ, hS, hT, hF, hL⟩ := id hR
  unfold oChg at kk
  replace kk := fun h2 => kk h2 u
  cases h0 : thI (sN (aS A)) t with
  | none =>
    rw [h0] at kk
    simp only [v155_0, v155_1, v155_2, v155_5, v155_8, v155_9, v155_10, v155_11, v155_14, v155_17, v155_20, v155_21, v155_22, v155_23, v155_26, v155_27, v155_30, v155_31, v155_32, v155_33, v155_36, v155_39, v155_42, v155_45, v155_48, v155_51, v155_52, v155_54, v155_57, v155_58, v155_59, v155_62, v155_64, v155_65, v155_68, v155_69, v155_70, v155_72, v155_73, v155_75, v155_76, v155_79, v155_80, v155_81, v155_83, v155_84, v155_85, v155_87, e155, hM.f0, hM.f1, hM.f2, hM.f3, hM.f4, hM.f5, hM.f6, hM.f8, hM.f10, hM.f12, hM.f13, hM.f25, hM.f27, hM.f28, hM.f36, hM.f37, hM.f38, hM.f40, hM.k0, hM.k1, hM.k2, hM.k3, hM.k4, hM.k13, hM.k14, hM.k15, hM.k16, hM.k17, hM.k26, hM.k51, hM.k52, hM.k53, hM.k54, hM.k55, hM.k56, hM.k57, hM.k58, hM.n1, hM.n2, hM.n3, hM.n4, hM.n13, hM.n14, hM.n15, hM.n16, hM.n17, hM.n26, hM.n51, hM.n52, hM.n53, hM.n54, hM.n55, hM.n56, hM.n57, hM.n58, vrf_s, true_or, or_true, true_and, and_true, and_self, not_false_eq_true, pu_s, pu_n, z2_e0, z2_n0, z2_t, z2_f, k136 hR hW, h0, Option.isSome_none, reduceIte]
    exact k134 (w := 0) hR hW (by decide) (by decide) (fun h2 q2 hR2 => by simp only [pu_s, v155_57]; exact kk h2 (MG.of q2 (fun a j z => by omega)) hR2)
  | some t' =>
    rw [h0] at kk
    have hn := hW.1.1
    obtain ⟨rfl, ht⟩ := thI_s (by omega) h0
    cases h1 : rgI 0 3 w with
    | none =>
      rw [h1] at kk
      simp only [v155_0, v155_1, v155_2, v155_5, v155_8, v155_9, v155_10, v155_11, v155_14, v155_17, v155_20, v155_21, v155_22, v155_23, v155_26, v155_27, v155_30, v155_31, v155_32, v155_33, v155_36, v155_39, v155_42, v155_45, v155_48, v155_51, v155_52, v155_54, v155_57, v155_58, v155_59, v155_62, v155_64, v155_65, v155_68, v155_69, v155_70, v155_72, v155_73, v155_75, v155_76, v155_79, v155_80, v155_81, v155_83, v155_84, v155_85, v155_87, e155, hM.f0, hM.f1, hM.f2, hM.f3, hM.f4, hM.f5, hM.f6, hM.f8, hM.f10, hM.f12, hM.f13, hM.f25, hM.f27, hM.f28, hM.f36, hM.f37, hM.f38, hM.f40, hM.k0, hM.k1, hM.k2, hM.k3, hM.k4, hM.k13, hM.k14, hM.k15, hM.k16, hM.k17, hM.k26, hM.k51, hM.k52, hM.k53, hM.k54, hM.k55, hM.k56, hM.k57, hM.k58, hM.n1, hM.n2, hM.n3, hM.n4, hM.n13, hM.n14, hM.n15, hM.n16, hM.n17, hM.n26, hM.n51, hM.n52, hM.n53, hM.n54, hM.n55, hM.n56, hM.n57, hM.n58, vrf_s, true_or, or_true, true_and, and_true, and_self, not_false_eq_true, pu_s, pu_n, z2_e0, z2_n0, z2_t, z2_f, k136 hR hW, h0, Option.isSome_some, i10, reduceIte, c135, rj_0_7, rj_0_4, rj_0_40, rj_0_5, rj_1_99, rj_1_9, rj_0_99, rj_0_9, rj_0_6, rj_0_3, rj_0_255, rj_1_24, rj_3_39, rj_0_1, rj_0_8, rj_0_2, rj_1_30, rj_0_14, rj_12_16, h1, Option.isSome_none]
      exact k134 (w := 0) hR hW (by decide) (by decide) (fun h2 q2 hR2 => by simp only [pu_s, v155_57]; exact kk h2 (MG.of q2 (fun a j z => by omega)) hR2)
    | some w' =>
      rw [h1] at kk
      dsimp only at kk
      obtain ⟨ew, -, hw⟩ := rgI_s (by decide) (by decide) h1
      obtain ⟨t1, t2, t3⟩ := hM.th (show t' < 8 by omega)
      have c1 : (nI t').toNatClampNeg = t' := nIc (by omega)
      have i1 : inb (nI t') 8 = True := nIb (by omega) (by omega)
      have hw' : w' = 0 ∨ w' = 1 ∨ w' = 2 ∨ w' = 3 := by omega
      have hcl := clC_lt hw
      have hres : ∀ v', loC w' ≤ v' → v' ≤ hiC w' → rgI (loC w') (hiC w') v = some v' → K (some (.int (nI (sT (aS A) t' (clC w'))))) (pI h (m + (18 + t')) (clC w') (nI v')) := fun v' v1 v2 hv => by
        rw [hv] at kk
        have q3 : Fr (fun x j => m + 18 ≤ x ∧ x < m + 26) h (pI h (m + (18 + t')) (clC w') (nI v')) := Fr.rf.pI ⟨by omega, by omega⟩
        exact kk _ (MG.of q3 (fun x j z => by omega)) (hR.ss hW q3 (fun x j z => by omega) (hP.set hW.1 ht))
      have e5 := hP.t ht hcl
      rcases hw' with rfl | rfl | rfl | rfl
      · have ew' : w = 0 := ew
        subst ew'
        change gI h (m + (18 + t')) 1 = nI (sT (aS A) t' 1) at e5
        cases h2 : rgI 1 99 v with
        | none =>
          rw [show rgI (loC 0) (hiC 0) v = none from h2] at kk
          simp only [v155_0, v155_1, v155_2, v155_5, v155_8, v155_9, v155_10, v155_11, v155_14, v155_17, v155_20, v155_21, v155_22, v155_23, v155_26, v155_27, v155_30, v155_31, v155_32, v155_33, v155_36, v155_39, v155_42, v155_45, v155_48, v155_51, v155_52, v155_54, v155_57, v155_58, v155_59, v155_62, v155_64, v155_65, v155_68, v155_69, v155_70, v155_72, v155_73, v155_75, v155_76, v155_79, v155_80, v155_81, v155_83, v155_84, v155_85, v155_87, e155, hM.f0, hM.f1, hM.f2, hM.f3, hM.f4, hM.f5, hM.f6, hM.f8, hM.f10, hM.f12, hM.f13, hM.f25, hM.f27, hM.f28, hM.f36, hM.f37, hM.f38, hM.f40, hM.k0, hM.k1, hM.k2, hM.k3, hM.k4, hM.k13, hM.k14, hM.k15, hM.k16, hM.k17, hM.k26, hM.k51, hM.k52, hM.k53, hM.k54, hM.k55, hM.k56, hM.k57, hM.k58, hM.n1, hM.n2, hM.n3, hM.n4, hM.n13, hM.n14, hM.n15, hM.n16, hM.n17, hM.n26, hM.n51, hM.n52, hM.n53, hM.n54, hM.n55, hM.n56, hM.n57, hM.n58, vrf_s, true_or, or_true, true_and, and_true, and_self, not_false_eq_true, pu_s, pu_n, z2_e0, z2_n0, z2_t, z2_f, k136 hR hW, h0, Option.isSome_some, i10, reduceIte, c135, rj_0_7, rj_0_4, rj_0_40, rj_0_5, rj_1_99, rj_1_9, rj_0_99, rj_0_9, rj_0_6, rj_0_3, rj_0_255, rj_1_24, rj_3_39, rj_0_1, rj_0_8, rj_0_2, rj_1_30, rj_0_14, rj_12_16, h1, l03, h2, Option.isSome_none]
          exact k134 (w := 0) hR hW (by decide) (by decide) (fun h2 q2 hR2 => by simp only [pu_s, v155_57]; exact kk h2 (MG.of q2 (fun a j z => by omega)) hR2)
        | some v' =>
          obtain ⟨rfl, v1, v2⟩ := rgI_s (by decide) (by decide) h2
          simp only [v155_0, v155_1, v155_2, v155_5, v155_8, v155_9, v155_10, v155_11, v155_14, v155_17, v155_20, v155_21, v155_22, v155_23, v155_26, v155_27, v155_30, v155_31, v155_32, v155_33, v155_36, v155_39, v155_42, v155_45, v155_48, v155_51, v155_52, v155_54, v155_57, v155_58, v155_59, v155_62, v155_64, v155_65, v155_68, v155_69, v155_70, v155_72, v155_73, v155_75, v155_76, v155_79, v155_80, v155_81, v155_83, v155_84, v155_85, v155_87, e155, hM.f0, hM.f1, hM.f2, hM.f3, hM.f4, hM.f5, hM.f6, hM.f8, hM.f10, hM.f12, hM.f13, hM.f25, hM.f27, hM.f28, hM.f36, hM.f37, hM.f38, hM.f40, hM.k0, hM.k1, hM.k2, hM.k3, hM.k4, hM.k13, hM.k14, hM.k15, hM.k16, hM.k17, hM.k26, hM.k51, hM.k52, hM.k53, hM.k54, hM.k55, hM.k56, hM.k57, hM.k58, hM.n1, hM.n2, hM.n3, hM.n4, hM.n13, hM.n14, hM.n15, hM.n16, hM.n17, hM.n26, hM.n51, hM.n52, hM.n53, hM.n54, hM.n55, hM.n56, hM.n57, hM.n58, vrf_s, true_or, or_true, true_and, and_true, and_self, not_false_eq_true, pu_s, pu_n, z2_e0, z2_n0, z2_t, z2_f, k136 hR hW, h0, Option.isSome_some, i10, reduceIte, c135, rj_0_7, rj_0_4, rj_0_40, rj_0_5, rj_1_99, rj_1_9, rj_0_99, rj_0_9, rj_0_6, rj_0_3, rj_0_255, rj_1_24, rj_3_39, rj_0_1, rj_0_8, rj_0_2, rj_1_30, rj_0_14, rj_12_16, h1, l03, h2, c154, t1, t2, t3, c1, i1, ib7_0, ib7_1, ib7_2, ib7_3, ib7_4, ib7_5, ib7_6, ib3_0, ib3_1, ib3_2, ib4_0, ib4_1, ib4_2, ib4_3, tc0, tc1, tc2, tc3, tc4, tc5, tc6, e5]
          exact hres v' v1 v2 h2
      · have ew' : w = 1 := ew
        subst ew'
        change gI h (m + (18 + t')) 3 = nI (sT (aS A) t' 3) at e5
        cases h2 : rgI 0 99 v with
        | none =>
          rw [show rgI (loC 1) (hiC 1) v = none from h2] at kk
          simp only [v155_0, v155_1, v155_2, v155_5, v155_8, v155_9, v155_10, v155_11, v155_14, v155_17, v155_20, v155_21, v155_22, v155_23, v155_26, v155_27, v155_30, v155_31, v155_32, v155_33, v155_36, v155_39, v155_42, v155_45, v155_48, v155_51, v155_52, v155_54, v155_57, v155_58, v155_59, v155_62, v155_64, v155_65, v155_68, v155_69, v155_70, v155_72, v155_73, v155_75, v155_76, v155_79, v155_80, v155_81, v155_83, v155_84, v155_85, v155_87, e155, hM.f0, hM.f1, hM.f2, hM.f3, hM.f4, hM.f5, hM.f6, hM.f8, hM.f10, hM.f12, hM.f13, hM.f25, hM.f27, hM.f28, hM.f36, hM.f37, hM.f38, hM.f40, hM.k0, hM.k1, hM.k2, hM.k3, hM.k4, hM.k13, hM.k14, hM.k15, hM.k16, hM.k17, hM.k26, hM.k51, hM.k52, hM.k53, hM.k54, hM.k55, hM.k56, hM.k57, hM.k58, hM.n1, hM.n2, hM.n3, hM.n4, hM.n13, hM.n14, hM.n15, hM.n16, hM.n17, hM.n26, hM.n51, hM.n52, hM.n53, hM.n54, hM.n55, hM.n56, hM.n57, hM.n58, vrf_s, true_or, or_true, true_and, and_true, and_self, not_false_eq_true, pu_s, pu_n, z2_e0, z2_n0, z2_t, z2_f, k136 hR hW, h0, Option.isSome_some, i10, reduceIte, c135, rj_0_7, rj_0_4, rj_0_40, rj_0_5, rj_1_99, rj_1_9, rj_0_99, rj_0_9, rj_0_6, rj_0_3, rj_0_255, rj_1_24, rj_3_39, rj_0_1, rj_0_8, rj_0_2, rj_1_30, rj_0_14, rj_12_16, h1, l13, h2, Option.isSome_none]
          exact k134 (w := 0) hR hW (by decide) (by decide) (fun h2 q2 hR2 => by simp only [pu_s, v155_57]; exact kk h2 (MG.of q2 (fun a j z => by omega)) hR2)
        | some v' =>
          obtain ⟨rfl, v1, v2⟩ := rgI_s (by decide) (by decide) h2
          simp only [v155_0, v155_1, v155_2, v155_5, v155_8, v155_9, v155_10, v155_11, v155_14, v155_17, v155_20, v155_21, v155_22, v155_23, v155_26, v155_27, v155_30, v155_31, v155_32, v155_33, v155_36, v155_39, v155_42, v155_45, v155_48, v155_51, v155_52, v155_54, v155_57, v155_58, v155_59, v155_62, v155_64, v155_65, v155_68, v155_69, v155_70, v155_72, v155_73, v155_75, v155_76, v155_79, v155_80, v155_81, v155_83, v155_84, v155_85, v155_87, e155, hM.f0, hM.f1, hM.f2, hM.f3, hM.f4, hM.f5, hM.f6, hM.f8, hM.f10, hM.f12, hM.f13, hM.f25, hM.f27, hM.f28, hM.f36, hM.f37, hM.f38, hM.f40, hM.k0, hM.k1, hM.k2, hM.k3, hM.k4, hM.k13, hM.k14, hM.k15, hM.k16, hM.k17, hM.k26, hM.k51, hM.k52, hM.k53, hM.k54, hM.k55, hM.k56, hM.k57, hM.k58, hM.n1, hM.n2, hM.n3, hM.n4, hM.n13, hM.n14, hM.n15, hM.n16, hM.n17, hM.n26, hM.n51, hM.n52, hM.n53, hM.n54, hM.n55, hM.n56, hM.n57, hM.n58, vrf_s, true_or, or_true, true_and, and_true, and_self, not_false_eq_true, pu_s, pu_n, z2_e0, z2_n0, z2_t, z2_f, k136 hR hW, h0, Option.isSome_some, i10, reduceIte, c135, rj_0_7, rj_0_4, rj_0_40, rj_0_5, rj_1_99, rj_1_9, rj_0_99, rj_0_9, rj_0_6, rj_0_3, rj_0_255, rj_1_24, rj_3_39, rj_0_1, rj_0_8, rj_0_2, rj_1_30, rj_0_14, rj_12_16, h1, l13, h2, c154, t1, t2, t3, c1, i1, ib7_0, ib7_1, ib7_2, ib7_3, ib7_4, ib7_5, ib7_6, ib3_0, ib3_1, ib3_2, ib4_0, ib4_1, ib4_2, ib4_3, tc0, tc1, tc2, tc3, tc4, tc5, tc6, e5]
          exact hres v' v1 v2 h2
      · have ew' : w = 2 := ew
        subst ew'
        change gI h (m + (18 + t')) 5 = nI (sT (aS A) t' 5) at e5
        cases h2 : rgI 0 99 v with
        | none =>
          rw [show rgI (loC 2) (hiC 2) v = none from h2] at kk
          simp only [v155_0, v155_1, v155_2, v155_5, v155_8, v155_9, v155_10, v155_11, v155_14, v155_17, v155_20, v155_21, v155_22, v155_23, v155_26, v155_27, v155_30, v155_31, v155_32, v155_33, v155_36, v155_39, v155_42, v155_45, v155_48, v155_51, v155_52, v155_54, v155_57, v155_58, v155_59, v155_62, v155_64, v155_65, v155_68, v155_69, v155_70, v155_72, v155_73, v155_75, v155_76, v155_79, v155_80, v155_81, v155_83, v155_84, v155_85, v155_87, e155, hM.f0, hM.f1, hM.f2, hM.f3, hM.f4, hM.f5, hM.f6, hM.f8, hM.f10, hM.f12, hM.f13, hM.f25, hM.f27, hM.f28, hM.f36, hM.f37, hM.f38, hM.f40, hM.k0, hM.k1, hM.k2, hM.k3, hM.k4, hM.k13, hM.k14, hM.k15, hM.k16, hM.k17, hM.k26, hM.k51, hM.k52, hM.k53, hM.k54, hM.k55, hM.k56, hM.k57, hM.k58, hM.n1, hM.n2, hM.n3, hM.n4, hM.n13, hM.n14, hM.n15, hM.n16, hM.n17, hM.n26, hM.n51, hM.n52, hM.n53, hM.n54, hM.n55, hM.n56, hM.n57, hM.n58, vrf_s, true_or, or_true, true_and, and_true, and_self, not_false_eq_true, pu_s, pu_n, z2_e0, z2_n0, z2_t, z2_f, k136 hR hW, h0, Option.isSome_some, i10, reduceIte, c135, rj_0_7, rj_0_4, rj_0_40, rj_0_5, rj_1_99, rj_1_9, rj_0_99, rj_0_9, rj_0_6, rj_0_3, rj_0_255, rj_1_24, rj_3_39, rj_0_1, rj_0_8, rj_0_2, rj_1_30, rj_0_14, rj_12_16, h1, l20, l23, h2, Option.isSome_none]
          exact k134 (w := 0) hR hW (by decide) (by decide) (fun h2 q2 hR2 => by simp only [pu_s, v155_57]; exact kk h2 (MG.of q2 (fun a j z => by omega)) hR2)
        | some v' =>
          obtain ⟨rfl, v1, v2⟩ := rgI_s (by decide) (by decide) h2
          simp only [v155_0, v155_1, v155_2, v155_5, v155_8, v155_9, v155_10, v155_11, v155_14, v155_17, v155_20, v155_21, v155_22, v155_23, v155_26, v155_27, v155_30, v155_31, v155_32, v155_33, v155_36, v155_39, v155_42, v155_45, v155_48, v155_51, v155_52, v155_54, v155_57, v155_58, v155_59, v155_62, v155_64, v155_65, v155_68, v155_69, v155_70, v155_72, v155_73, v155_75, v155_76, v155_79, v155_80, v155_81, v155_83, v155_84, v155_85, v155_87, e155, hM.f0, hM.f1, hM.f2, hM.f3, hM.f4, hM.f5, hM.f6, hM.f8, hM.f10, hM.f12, hM.f13, hM.f25, hM.f27, hM.f28, hM.f36, hM.f37, hM.f38, hM.f40, hM.k0, hM.k1, hM.k2, hM.k3, hM.k4, hM.k13, hM.k14, hM.k15, hM.k16, hM.k17, hM.k26, hM.k51, hM.k52, hM.k53, hM.k54, hM.k55, hM.k56, hM.k57, hM.k58, hM.n1, hM.n2, hM.n3, hM.n4, hM.n13, hM.n14, hM.n15, hM.n16, hM.n17, hM.n26, hM.n51, hM.n52, hM.n53, hM.n54, hM.n55, hM.n56, hM.n57, hM.n58, vrf_s, true_or, or_true, true_and, and_true, and_self, not_false_eq_true, pu_s, pu_n, z2_e0, z2_n0, z2_t, z2_f, k136 hR hW, h0, Option.isSome_some, i10, reduceIte, c135, rj_0_7, rj_0_4, rj_0_40, rj_0_5, rj_1_99, rj_1_9, rj_0_99, rj_0_9, rj_0_6, rj_0_3, rj_0_255, rj_1_24, rj_3_39, rj_0_1, rj_0_8, rj_0_2, rj_1_30, rj_0_14, rj_12_16, h1, l20, l21, l23, h2, c154, t1, t2, t3, c1, i1, ib7_0, ib7_1, ib7_2, ib7_3, ib7_4, ib7_5, ib7_6, ib3_0, ib3_1, ib3_2, ib4_0, ib4_1, ib4_2, ib4_3, tc0, tc1, tc2, tc3, tc4, tc5, tc6, e5]
          exact hres v' v1 v2 h2
      · have ew' : w = 3 := ew
        subst ew'
        change gI h (m + (18 + t')) 6 = nI (sT (aS A) t' 6) at e5
        cases h2 : rgI 0 7 v with
        | none =>
          rw [show rgI (loC 3) (hiC 3) v = none from h2] at kk
          simp only [v155_0, v155_1, v155_2, v155_5, v155_8, v155_9, v155_10, v155_11, v155_14, v155_17, v155_20, v155_21, v155_22, v155_23, v155_26, v155_27, v155_30, v155_31, v155_32, v155_33, v155_36, v155_39, v155_42, v155_45, v155_48, v155_51, v155_52, v155_54, v155_57, v155_58, v155_59, v155_62, v155_64, v155_65, v155_68, v155_69, v155_70, v155_72, v155_73, v155_75, v155_76, v155_79, v155_80, v155_81, v155_83, v155_84, v155_85, v155_87, e155, hM.f0, hM.f1, hM.f2, hM.f3, hM.f4, hM.f5, hM.f6, hM.f8, hM.f10, hM.f12, hM.f13, hM.f25, hM.f27, hM.f28, hM.f36, hM.f37, hM.f38, hM.f40, hM.k0, hM.k1, hM.k2, hM.k3, hM.k4, hM.k13, hM.k14, hM.k15, hM.k16, hM.k17, hM.k26, hM.k51, hM.k52, hM.k53, hM.k54, hM.k55, hM.k56, hM.k57, hM.k58, hM.n1, hM.n2, hM.n3, hM.n4, hM.n13, hM.n14, hM.n15, hM.n16, hM.n17, hM.n26, hM.n51, hM.n52, hM.n53, hM.n54, hM.n55, hM.n56, hM.n57, hM.n58, vrf_s, true_or, or_true, true_and, and_true, and_self, not_false_eq_true, pu_s, pu_n, z2_e0, z2_n0, z2_t, z2_f, k136 hR hW, h0, Option.isSome_some, i10, reduceIte, c135, rj_0_7, rj_0_4, rj_0_40, rj_0_5, rj_1_99, rj_1_9, rj_0_99, rj_0_9, rj_0_6, rj_0_3, rj_0_255, rj_1_24, rj_3_39, rj_0_1, rj_0_8, rj_0_2, rj_1_30, rj_0_14, rj_12_16, h1, l30, h2, Option.isSome_none, not_true_eq_false]
          exact k134 (w := 0) hR hW (by decide) (by decide) (fun h2 q2 hR2 => by simp only [pu_s, v155_57]; exact kk h2 (MG.of q2 (fun a j z => by omega)) hR2)
        | some v' =>
          obtain ⟨rfl, v1, v2⟩ := rgI_s (by decide) (by decide) h2
          simp only [v155_0, v155_1, v155_2, v155_5, v155_8, v155_9, v155_10, v155_11, v155_14, v155_17, v155_20, v155_21, v155_22, v155_23, v155_26, v155_27, v155_30, v155_31, v155_32, v155_33, v155_36, v155_39, v155_42, v155_45, v155_48, v155_51, v155_52, v155_54, v155_57, v155_58, v155_59, v155_62, v155_64, v155_65, v155_68, v155_69, v155_70, v155_72, v155_73, v155_75, v155_76, v155_79, v155_80, v155_81, v155_83, v155_84, v155_85, v155_87, e155, hM.f0, hM.f1, hM.f2, hM.f3, hM.f4, hM.f5, hM.f6, hM.f8, hM.f10, hM.f12, hM.f13, hM.f25, hM.f27, hM.f28, hM.f36, hM.f37, hM.f38, hM.f40, hM.k0, hM.k1, hM.k2, hM.k3, hM.k4, hM.k13, hM.k14, hM.k15, hM.k16, hM.k17, hM.k26, hM.k51, hM.k52, hM.k53, hM.k54, hM.k55, hM.k56, hM.k57, hM.k58, hM.n1, hM.n2, hM.n3, hM.n4, hM.n13, hM.n14, hM.n15, hM.n16, hM.n17, hM.n26, hM.n51, hM.n52, hM.n53, hM.n54, hM.n55, hM.n56, hM.n57, hM.n58, vrf_s, true_or, or_true, true_and, and_true, and_self, not_false_eq_true, pu_s, pu_n, z2_e0, z2_n0, z2_t, z2_f, k136 hR hW, h0, Option.isSome_some, i10, reduceIte, c135, rj_0_7, rj_0_4, rj_0_40, rj_0_5, rj_1_99, rj_1_9, rj_0_99, rj_0_9, rj_0_6, rj_0_3, rj_0_255, rj_1_24, rj_3_39, rj_0_1, rj_0_8, rj_0_2, rj_1_30, rj_0_14, rj_12_16, h1, l30, l31, l32, h2, c154, t1, t2, t3, c1, i1, ib7_0, ib7_1, ib7_2, ib7_3, ib7_4, ib7_5, ib7_6, ib3_0, ib3_1, ib3_2, ib4_0, ib4_1, ib4_2, ib4_3, tc0, tc1, tc2, tc3, tc4, tc5, tc6, e5, not_true_eq_false]
          exact hres v' v1 v2 h2
theorem k65 (hC : CL b A h) (hW : WF A) (w v : Int32) (kk : ∀ h2, Fr (CW b) h h2 → CL b (oAsk A w v).1 h2 → K (some (.int (oAsk A w v).2)) h2) : AM 65 [.ref b, .int w, .int v] h K := by
  obtain ⟨⟨cn, kb, f0, f1, f3, f4, f5, f6⟩, hST, hKP, hTR, hTA, ⟨s1, s2, s3⟩, hRF⟩ := id hC
  unfold oAsk at kk
  obtain ⟨a2, x1, x2, x3, x4⟩ := cn.tb (j := 7) (by decide)
  obtain ⟨a3, y1, y2, y3, y4⟩ := cn.tb (j := 8) (by decide)
  cases h1 : rgI 0 3 w with
  | none =>
    rw [h1] at kk
    simp only [v65_0, v65_1, v65_2, v65_3, v65_6, v65_9, v65_10, v65_13, v65_14, v65_15, v65_18, v65_19, v65_20, v65_23, v65_26, v65_27, v65_29, v65_32, v65_33, v65_34, v65_37, v65_40, v65_41, v65_42, v65_43, v65_44, v65_47, v65_50, v65_51, v65_52, v65_53, v65_54, e65, kb, f0, f1, f3, f4, f5, f6, vrf_s, true_and, true_or, or_true, and_self, not_false_eq_true, pu_s, pu_n, z2_e0, z2_n0, z2_t, z2_f, c123, ri_0_7, ri_0_4, ri_0_40, ri_0_5, ri_1_99, ri_1_9, ri_0_99, ri_0_9, ri_0_6, ri_0_3, ri_0_255, ri_1_24, ri_3_39, ri_0_1, ri_0_8, ri_0_2, ri_1_30, ri_0_14, ri_12_16, h1, Option.isSome_none, reduceIte]
    exact k108 (w := 0) hC hW (by decide) (by decide) (fun h2 q2 hC2 => by simp only [pu_s, v65_32]; exact kk h2 q2 hC2)
  | some k =>
    rw [h1] at kk
    dsimp only at kk
    obtain ⟨rfl, -, hk3⟩ := rgI_s (by decide) (by decide) h1
    have hk : k < 4 := by omega
    have hk' : k = 0 ∨ k = 1 ∨ k = 2 ∨ k = 3 := by omega
    have z1 : gI h a2 k = nI (loA k) := by rw [x4 k hk]; rcases hk' with rfl | rfl | rfl | rfl <;> rfl
    have z2' : gI h a3 k = nI (hiA k) := by rw [y4 k hk]; rcases hk' with rfl | rfl | rfl | rfl <;> rfl
    have n2 : gN h a2 = 4 := x3
    have n3 : gN h a3 = 4 := y3
    have c1 : (nI k).toNatClampNeg = k := nIc (by omega)
    have i1 : inb (nI k) 4 = True := nIb (by omega) (by omega)
    have hl := loA_le k
    have ri := rgI_I (loA k) (hiA k) v
    cases h2 : rgI (loA k) (hiA k) v with
    | none =>
      rw [h2] at kk ri
      simp only [v65_0, v65_1, v65_2, v65_3, v65_6, v65_9, v65_10, v65_13, v65_14, v65_15, v65_18, v65_19, v65_20, v65_23, v65_26, v65_27, v65_29, v65_32, v65_33, v65_34, v65_37, v65_40, v65_41, v65_42, v65_43, v65_44, v65_47, v65_50, v65_51, v65_52, v65_53, v65_54, e65, kb, f0, f1, f3, f4, f5, f6, vrf_s, true_and, true_or, or_true, and_self, not_false_eq_true, pu_s, pu_n, z2_e0, z2_n0, z2_t, z2_f, c123, ri_0_7, ri_0_4, ri_0_40, ri_0_5, ri_1_99, ri_1_9, ri_0_99, ri_0_9, ri_0_6, ri_0_3, ri_0_255, ri_1_24, ri_3_39, ri_0_1, ri_0_8, ri_0_2, ri_1_30, ri_0_14, ri_12_16, h1, Option.isSome_some, i10, reduceIte, x1, x2, y1, y2, n2, n3, c1, i1, z1, z2', ri, Option.isSome_none]
      exact k108 (w := 0) hC hW (by decide) (by decide) (fun h2 q2 hC2 => by simp only [pu_s, v65_32]; exact kk h2 q2 hC2)
    | some v' =>
      rw [h2] at kk ri
      obtain ⟨rfl, v1, v2⟩ := rgI_s (by omega) (by omega) h2
      obtain ⟨ρ, β, hQ, hV, hO, -⟩ := id hST
      obtain ⟨t1, t2, t3, t4, t5, t6, t7, t8, t9, t10, -⟩ := id hQ
      have ee := hV.aa hk
      simp only [v65_0, v65_1, v65_2, v65_3, v65_6, v65_9, v65_10, v65_13, v65_14, v65_15, v65_18, v65_19, v65_20, v65_23, v65_26, v65_27, v65_29, v65_32, v65_33, v65_34, v65_37, v65_40, v65_41, v65_42, v65_43, v65_44, v65_47, v65_50, v65_51, v65_52, v65_53, v65_54, e65, kb, f0, f1, f3, f4, f5, f6, vrf_s, true_and, true_or, or_true, and_self, not_false_eq_true, pu_s, pu_n, z2_e0, z2_n0, z2_t, z2_f, c123, ri_0_7, ri_0_4, ri_0_40, ri_0_5, ri_1_99, ri_1_9, ri_0_99, ri_0_9, ri_0_6, ri_0_3, ri_0_255, ri_1_24, ri_3_39, ri_0_1, ri_0_8, ri_0_2, ri_1_30, ri_0_14, ri_12_16, h1, Option.isSome_some, i10, reduceIte, x1, x2, y1, y2, n2, n3, c1, i1, z1, z2', ri, t1, t4, t9, t10, ee]
      have q3 : FI (fun x j => x = b + 1 + 35) h (pI h (b + 1 + 35) k (nI v')) := FI.rf.pI rfl
      exact kk _ (q3.1.mo (fun x j z => by unfold CW; omega)) (hC.ss hW q3.1 (fun x j z => by omega) (hQ.fi q3) (SV.ask hQ hV hO) (hO.ask hk v1 v2))
theorem k158 (hR : MR m u A h) (hW : WF A) (w v : Int32) (kk : ∀ (h2 : Hp) (u2 : LU), MG m h h2 → MR m u2 (oAsk A w v).1 h2 → K (some (.int (oAsk A w v).2)) h2) : AM 158 [.ref m, .int w, .int v] h K := by
  obtain ⟨r0, hM, hpp, hP, hQ, hS, hT, hF, hL⟩ := id hR
  unfold oAsk at kk
  replace kk := fun h2 => kk h2 u
  cases h1 : rgI 0 3 w with
  | none =>
    rw [h1] at kk
    simp only [v158_0, v158_1, v158_2, v158_3, v158_6, v158_9, v158_12, v158_13, v158_14, v158_15, v158_18, v158_19, v158_20, v158_23, v158_24, v158_27, v158_30, v158_31, v158_33, v158_36, v158_37, v158_38, v158_41, v158_42, v158_43, v158_44, v158_45, v158_48, v158_49, v158_50, v158_51, v158_52, e158, hM.f0, hM.f1, hM.f2, hM.f3, hM.f4, hM.f5, hM.f6, hM.f8, hM.f10, hM.f12, hM.f13, hM.f25, hM.f27, hM.f28, hM.f36, hM.f37, hM.f38, hM.f40, hM.k0, hM.k1, hM.k2, hM.k3, hM.k4, hM.k13, hM.k14, hM.k15, hM.k16, hM.k17, hM.k26, hM.k51, hM.k52, hM.k53, hM.k54, hM.k55, hM.k56, hM.k57, hM.k58, hM.n1, hM.n2, hM.n3, hM.n4, hM.n13, hM.n14, hM.n15, hM.n16, hM.n17, hM.n26, hM.n51, hM.n52, hM.n53, hM.n54, hM.n55, hM.n56, hM.n57, hM.n58, vrf_s, true_or, or_true, true_and, and_true, and_self, not_false_eq_true, pu_s, pu_n, z2_e0, z2_n0, z2_t, z2_f, c135, rj_0_7, rj_0_4, rj_0_40, rj_0_5, rj_1_99, rj_1_9, rj_0_99, rj_0_9, rj_0_6, rj_0_3, rj_0_255, rj_1_24, rj_3_39, rj_0_1, rj_0_8, rj_0_2, rj_1_30, rj_0_14, rj_12_16, h1, Option.isSome_none, reduceIte]
    exact k134 (w := 0) hR hW (by decide) (by decide) (fun h2 q2 hR2 => by simp only [pu_s, v158_36]; exact kk h2 (MG.of q2 (fun a j z => by omega)) hR2)
  | some k =>
    rw [h1] at kk
    dsimp only at kk
    obtain ⟨rfl, -, hk3⟩ := rgI_s (by decide) (by decide) h1
    have hk : k < 4 := by omega
    have c1 : (nI k).toNatClampNeg = k := nIc (by omega)
    have i1 : inb (nI k) 4 = True := nIb (by omega) (by omega)
    have hl := loA_le k
    have rj := rgI_J (loA k) (hiA k) v
    cases h2 : rgI (loA k) (hiA k) v with
    | none =>
      rw [h2] at kk rj
      simp only [v158_0, v158_1, v158_2, v158_3, v158_6, v158_9, v158_12, v158_13, v158_14, v158_15, v158_18, v158_19, v158_20, v158_23, v158_24, v158_27, v158_30, v158_31, v158_33, v158_36, v158_37, v158_38, v158_41, v158_42, v158_43, v158_44, v158_45, v158_48, v158_49, v158_50, v158_51, v158_52, e158, hM.f0, hM.f1, hM.f2, hM.f3, hM.f4, hM.f5, hM.f6, hM.f8, hM.f10, hM.f12, hM.f13, hM.f25, hM.f27, hM.f28, hM.f36, hM.f37, hM.f38, hM.f40, hM.k0, hM.k1, hM.k2, hM.k3, hM.k4, hM.k13, hM.k14, hM.k15, hM.k16, hM.k17, hM.k26, hM.k51, hM.k52, hM.k53, hM.k54, hM.k55, hM.k56, hM.k57, hM.k58, hM.n1, hM.n2, hM.n3, hM.n4, hM.n13, hM.n14, hM.n15, hM.n16, hM.n17, hM.n26, hM.n51, hM.n52, hM.n53, hM.n54, hM.n55, hM.n56, hM.n57, hM.n58, vrf_s, true_or, or_true, true_and, and_true, and_self, not_false_eq_true, pu_s, pu_n, z2_e0, z2_n0, z2_t, z2_f, c135, rj_0_7, rj_0_4, rj_0_40, rj_0_5, rj_1_99, rj_1_9, rj_0_99, rj_0_9, rj_0_6, rj_0_3, rj_0_255, rj_1_24, rj_3_39, rj_0_1, rj_0_8, rj_0_2, rj_1_30, rj_0_14, rj_12_16, h1, Option.isSome_some, i10, reduceIte, c156, c157, loA_I hk, hiA_I hk, rj, Option.isSome_none]
      exact k134 (w := 0) hR hW (by decide) (by decide) (fun h2 q2 hR2 => by simp only [pu_s, v158_36]; exact kk h2 (MG.of q2 (fun a j z => by omega)) hR2)
    | some v' =>
      rw [h2] at kk rj
      obtain ⟨rfl, v1, v2⟩ := rgI_s (by omega) (by omega) h2
      simp only [v158_0, v158_1, v158_2, v158_3, v158_6, v158_9, v158_12, v158_13, v158_14, v158_15, v158_18, v158_19, v158_20, v158_23, v158_24, v158_27, v158_30, v158_31, v158_33, v158_36, v158_37, v158_38, v158_41, v158_42, v158_43, v158_44, v158_45, v158_48, v158_49, v158_50, v158_51, v158_52, e158, hM.f0, hM.f1, hM.f2, hM.f3, hM.f4, hM.f5, hM.f6, hM.f8, hM.f10, hM.f12, hM.f13, hM.f25, hM.f27, hM.f28, hM.f36, hM.f37, hM.f38, hM.f40, hM.k0, hM.k1, hM.k2, hM.k3, hM.k4, hM.k13, hM.k14, hM.k15, hM.k16, hM.k17, hM.k26, hM.k51, hM.k52, hM.k53, hM.k54, hM.k55, hM.k56, hM.k57, hM.k58, hM.n1, hM.n2, hM.n3, hM.n4, hM.n13, hM.n14, hM.n15, hM.n16, hM.n17, hM.n26, hM.n51, hM.n52, hM.n53, hM.n54, hM.n55, hM.n56, hM.n57, hM.n58, vrf_s, true_or, or_true, true_and, and_true, and_self, not_false_eq_true, pu_s, pu_n, z2_e0, z2_n0, z2_t, z2_f, c135, rj_0_7, rj_0_4, rj_0_40, rj_0_5, rj_1_99, rj_1_9, rj_0_99, rj_0_9, rj_0_6, rj_0_3, rj_0_255, rj_1_24, rj_3_39, rj_0_1, rj_0_8, rj_0_2, rj_1_30, rj_0_14, rj_12_16, h1, Option.isSome_some, i10, reduceIte, c156, c157, loA_I hk, hiA_I hk, rj, c1, i1, hP.a hk]
      have q3 : Fr (fun x j => x = m + 51) h (pI h (m + 51) k (nI v')) := Fr.rf.pI rfl
      exact kk _ (MG.of q3 (fun x j z => by omega)) (hR.ss hW q3 (fun x j z => by omega) (hP.ask hW.1))
end
