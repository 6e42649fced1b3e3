/-! DRAW, on both sides -/
def sdA (A : XA) : XA := (oSed A (sdI (aQ A).2.2)).1
theorem sdA_e (A : XA) : (aQ (sdA A)).2.2 = sdI (aQ A).2.2 := rfl
theorem aS_ed (A : XA) (v : Int32) : aS (oSed A v).1 = aS A := rfl
theorem aS_sd (A : XA) : aS (sdA A) = aS A := aS_ed A _
theorem WF.ed {A : XA} (hW : WF A) (v : Int32) : WF (oSed A v).1 := hW
theorem WF.sd {A : XA} (hW : WF A) : WF (sdA A) := hW.ed _
theorem WF.ws {A : XA} (hW : WF A) {s : SG} (hO : SOk s) (hn : sN s = sN (aS A)) : WF (wS A s) := ⟨hO, hW.2.1, hW.2.2.1, hW.2.2.2.1, fun i hi => by rw [show aS (wS A s) = s from rfl, hn]; exact hW.2.2.2.2 i hi⟩
theorem sN_gB (s : SG) (hr so pu : Nat) : sN (sgB s hr so pu) = sN s := rfl
theorem sM_gB (s : SG) (hr so pu : Nat) : sM (sgB s hr so pu) = sM s + 1 := rfl
def dwJ (A : XA) : XA := wS (sdA (sdA (sdA A))) (sgB (aS A) (dwN (aQ (sdA A)).2.2 7) (dwN (aQ (sdA (sdA A))).2.2 4) (dwN (aQ (sdA (sdA (sdA A)))).2.2 60 + 1))
def dwK (A : XA) : Nat → XA
  | 0 => A
  | k + 1 => dwJ (dwK A k)
theorem aS_ws (A : XA) (s : SG) : aS (wS A s) = s := rfl
theorem dwJ_m (A : XA) : sM (aS (dwJ A)) = sM (aS A) + 1 := by
  unfold dwJ
  rw [aS_ws, sM_gB]
theorem dwK_m (A : XA) (k : Nat) : sM (aS (dwK A k)) = sM (aS A) + k := by
  induction k with
  | zero => rfl
  | succ k ih =>
    show sM (aS (dwJ (dwK A k))) = _
    rw [dwJ_m, ih]
    rfl
theorem SOk.dr {A : XA} (hW : WF A) (hm : sM (aS A) < 24) {x y z : Int32} : SOk (sgB (aS A) (dwN x 7) (dwN y 4) (dwN z 60 + 1)) := by
  have l1 := dwN_lt x (n := 7) (by decide)
  have l2 := dwN_lt y (n := 4) (by decide)
  have l3 := dwN_lt z (n := 60) (by decide)
  exact hW.1.buy hm (by omega) (by omega) ⟨by omega, by omega⟩
theorem WF.dr {A : XA} (hW : WF A) (hm : sM (aS A) < 24) : WF (dwJ A) := hW.sd.sd.sd.ws (SOk.dr hW hm) (by rw [sN_gB, aS_sd, aS_sd, aS_sd])
theorem WF.dwK {A : XA} (hW : WF A) (k : Nat) (hm : sM (aS A) + k ≤ 24) : WF (dwK A k) := by
  induction k with
  | zero => exact hW
  | succ k ih => exact (ih (by omega)).dr (by rw [dwK_m]; omega)
def oDrw (A : XA) (n : Int32) : XA × Int32 := match rgI 1 24 n with
  | none => rfI A 0 (-2)
  | some n => (dwK A (min n (24 - sM (aS A))), nI (min n (24 - sM (aS A))))
section
variable {b m x : Nat} {u : LU} {A : XA} {s : SG} {h h1 h3 : Hp} {K : Option Value → Hp → Prop}
theorem CL.sd (hC : CL b A h) (hW : WF A) (v : Int32) : CL b (oSed A v).1 (pI h (b + 1) 7 v) := by
  obtain ⟨⟨cn, kb, f0, f1, f3, f4, f5, f6⟩, hST, hKP, hTR, hTA, ⟨s1, s2, s3⟩, hRF⟩ := id hC
  obtain ⟨ρ, β, hQ, hV, hO, q5, q6, q7⟩ := id hST
  have q3 : FI (fun x j => x = b + 1 ∧ j = 7) h (pI h (b + 1) 7 v) := FI.rf.pI ⟨rfl, rfl⟩
  obtain ⟨p1, p2, p3, p4, p5⟩ := hV
  have hn := hO.1
  have hm := hO.2.1
  refine hC.us (s := aS A) (q := ((aQ A).1, (aQ A).2.1, v)) hW q3.1 (fun x j z => by omega) ⟨ρ, β, hQ.fi q3, ⟨(q3.i (fun z => by omega)).trans p1, (q3.i (fun z => by omega)).trans p2, fun t ht k hk => ?_, fun c hc k hk => ?_, fun k hk => (q3.i (fun z => by omega)).trans (p5 k hk)⟩, hO, (q3.i (fun z => by omega)).trans q5, (q3.i (fun z => by omega)).trans q6, gI_at _ _ _ _⟩
  · obtain ⟨-, -, -, x4, x5⟩ := hQ.th (show t < 8 by omega)
    exact (q3.i (fun z => by omega)).trans (p3 t ht k hk)
  · obtain ⟨-, -, -, x4, x5⟩ := hQ.by (show c < 24 by omega)
    exact (q3.i (fun z => by omega)).trans (p4 c hc k hk)
theorem MR.sd (hR : MR m u A h) (hW : WF A) (v : Int32) : MR m u (oSed A v).1 (pI h m 16 v) := by
  obtain ⟨r0, hM, hpp, hP, hQ, hS, hT, hF, hL⟩ := id hR
  have q3 : Fr (fun x j => x = m ∧ j = 16) h (pI h m 16 v) := Fr.rf.pI ⟨rfl, rfl⟩
  exact hR.upd (s := aS A) (q := ((aQ A).1, (aQ A).2.1, v)) hW q3 (fun x j z => by unfold MY; omega) (hpp.fr q3 (fun j _ _ z => by omega)) (hP.fr hW.1 q3 (fun x j z => ⟨fun y => by omega, fun y => by omega, fun y => by omega⟩)) ⟨(q3.i (fun z => by omega)).trans hQ.1, (q3.i (fun z => by omega)).trans hQ.2.1, gI_at _ _ _ _⟩
theorem d30 (hC : CL b A h) (hW : WF A) {n : Nat} (h0 : 0 < n) (hn : n ≤ 1000) (kk : ∀ h2, Fr (CW b) h h2 → CL b (sdA A) h2 → K (some (.int (nI (dwN (aQ (sdA A)).2.2 n)))) h2) : AM 30 [.ref (b + 1), .int (nI n)] h K := by
  obtain ⟨-, ⟨ρ, β, hQ, hV, hO, q5, q6, q7⟩, -⟩ := id hC
  rw [c30 hQ.1 h0 hn, q7]
  have := kk _ ((Fr.rf (F := fun x j => x = b + 1 ∧ j = 7).pI (v := sdI (aQ A).2.2) ⟨rfl, rfl⟩).mo (fun x j z => by unfold CW; omega)) (hC.sd hW _)
  rw [sdA_e] at this
  exact this
theorem r226 (x : Int32) (hM : MSh m h) (hq : gI h m 16 = x) {n : Nat} (h0 : 0 < n) (hn : n ≤ 1000) : AM 226 [.ref m, .int (nI n)] h K = K (some (.int (nI (dwN (sdI x) n)))) (pI h m 16 (sdI x)) := by
  have ez : (nI n = 0) = False := eq_false (nI_ne0 h0 (by omega))
  have e := dw_I (sdI x) h0 hn
  unfold sdI at e
  unfold sdI
  simp only [v226_0, v226_1, v226_2, v226_5, v226_8, v226_9, v226_12, v226_13, v226_16, v226_17, v226_20, v226_22, v226_23, v226_24, v226_25, e226, hM.k0, hq, gI_pJ, gI_pR, gJ_pI, gJ_pR, gR_pI, gR_pJ, gK_pI, gK_pJ, gK_pR, gN_pI, gN_pJ, gN_pR, gX_pI, gX_pJ, gX_pR, gS_pI, gS_pJ, gS_pR, gK_cpI, gN_cpI, gK_cpJ, gN_cpJ, gR_cpI, gR_cpJ, gJ_cpI, gI_cpJ, gI_at, ez, ne_eq, not_false_eq_true, true_and, e]
theorem d226 (hR : MR m u A h) (hW : WF A) {n : Nat} (h0 : 0 < n) (hn : n ≤ 1000) (kk : ∀ h2, Fr (fun x _ => m ≤ x) h h2 → MR m u (sdA A) h2 → K (some (.int (nI (dwN (aQ (sdA A)).2.2 n)))) h2) : AM 226 [.ref m, .int (nI n)] h K := by
  rw [r226 (aQ A).2.2 hR.2.1 hR.2.2.2.2.1.2.2 h0 hn]
  have := kk _ ((Fr.rf (F := fun x j => x = m ∧ j = 16).pI (v := sdI (aQ A).2.2) ⟨rfl, rfl⟩).mo (fun x j z => by omega)) (hR.sd hW _)
  rw [sdA_e] at this
  exact this
theorem k101_l (hC : CL b A h) (hW : WF A) {n : Nat} (hn : n ≤ 24) (kk : ∀ h2, Fr (CW b) h h2 → CL b (dwK A (min n (24 - sM (aS A)))) h2 → K (some (.int (nI (min n (24 - sM (aS A)))))) h2) :
    ∀ (d k : Nat) (h1 : Hp) (v3 v4 v5 : Value), k + d = min n (24 - sM (aS A)) → Fr (CW b) h h1 → CL b (dwK A k) h1 → V 101 19 [.ref b, .int (nI n), .int (nI k), v3, v4, v5] [] h1 K := by
  have hm24 := hW.1.2.1
  intro d
  induction d with
  | zero =>
    intro k h1 v3 v4 v5 hk hf hC1
    obtain ⟨⟨cn, kb, f0, f1, f3, f4, f5, f6⟩, ⟨ρ, β, hQ, hV, hO, -⟩, -⟩ := id hC1
    have y1 := hQ.1
    have em : gI h1 (b + 1) 3 = nI (sM (aS A) + k) := by rw [← dwK_m]; exact hV.2.1
    rw [← hk] at kk
    have := kk h1 hf hC1
    by_cases g : n ≤ k
    · have e1 : (nI n ≤ nI k) = True := eq_true (nI_le g (by omega))
      simp only [v101_19, v101_20, v101_21, v101_88, v101_89, e1, reduceIte]
      exact this
    · have e1 : (nI n ≤ nI k) = False := eq_false (nI_ge (by omega) (by omega))
      have e2 : ((24 : Int32) ≤ nI (sM (aS A) + k)) = True := eq_true (nI_le (a := 24) (by omega) (by omega))
      simp only [v101_19, v101_20, v101_21, v101_24, v101_25, v101_28, v101_31, v101_33, v101_88, v101_89, kb, f0, f1, f3, f4, f5, f6, vrf_s, true_and, true_or, or_true, and_self, not_false_eq_true, pu_s, pu_n, z2_e0, z2_n0, z2_t, z2_f, y1, em, e1, e2, reduceIte]
      exact this
  | succ d ih =>
    intro k h1 v3 v4 v5 hk hf hC1
    obtain ⟨⟨cn, kb, f0, f1, f3, f4, f5, f6⟩, ⟨ρ, β, hQ, hV, hO, -⟩, -⟩ := id hC1
    have y1 := hQ.1
    have em : gI h1 (b + 1) 3 = nI (sM (aS A) + k) := by rw [← dwK_m]; exact hV.2.1
    have e1 : (nI n ≤ nI k) = False := eq_false (nI_ge (by omega) (by omega))
    have e2 : ((24 : Int32) ≤ nI (sM (aS A) + k)) = False := eq_false (nI_ge (b := 24) (by omega) (by omega))
    have hW1 := hW.dwK k (by omega)
    have l1 := dwN_lt (aQ (sdA (dwK A k))).2.2 (n := 7) (by decide)
    have l2 := dwN_lt (aQ (sdA (sdA (dwK A k)))).2.2 (n := 4) (by decide)
    have l3 := dwN_lt (aQ (sdA (sdA (sdA (dwK A k))))).2.2 (n := 60) (by decide)
    simp only [v101_19, v101_20, v101_21, v101_24, v101_25, v101_28, v101_31, v101_33, v101_36, v101_37, v101_40, v101_42, kb, f0, f1, f3, f4, f5, f6, vrf_s, true_and, true_or, or_true, and_self, not_false_eq_true, pu_s, pu_n, z2_e0, z2_n0, z2_t, z2_f, y1, em, e1, e2, reduceIte]
    refine d30 (n := 7) hC1 hW1 (by decide) (by decide) (fun h2 q2 hC2 => ?_)
    obtain ⟨⟨-, kb2, g2, -⟩, ⟨ρ2, β2, hQ2, -⟩, -⟩ := id hC2
    have z1 := hQ2.1
    have hW2 : WF (sdA (dwK A k)) := hW1.sd
    simp only [pu_s, v101_45, v101_46, v101_47, v101_50, v101_51, kb2, g2, z1, vrf_s, true_and]
    refine d30 (n := 4) hC2 hW2 (by decide) (by decide) (fun h3 q3 hC3 => ?_)
    obtain ⟨⟨-, kb3, g3, -⟩, ⟨ρ3, β3, hQ3, -⟩, -⟩ := id hC3
    have z2' := hQ3.1
    have hW3 : WF (sdA (sdA (dwK A k))) := hW2.sd
    simp only [pu_s, v101_54, v101_56, v101_57, v101_60, v101_62, kb3, g3, z2', vrf_s, true_and]
    refine d30 (n := 60) hC3 hW3 (by decide) (by decide) (fun h4 q4 hC4 => ?_)
    obtain ⟨⟨-, kb4, g4, -⟩, ⟨ρ4, β4, hQ4, hV4, hO4, -⟩, -⟩ := id hC4
    have z3 := hQ4.1
    have hW4 : WF (sdA (sdA (sdA (dwK A k)))) := hW3.sd
    simp only [pu_s, v101_65, v101_66, v101_67, v101_69, v101_70, v101_73, v101_74, v101_76, v101_78, kb4, g4, z3, vrf_s, true_and, nI_1]
    have hm : sM (aS (dwK A k)) < 24 := by rw [dwK_m]; omega
    rw [aS_sd, aS_sd, aS_sd] at hV4 hO4
    refine c22 hQ4 hV4 hO4 hm (by omega) (fun h5 q5 hQ5 hV5 => ?_)
    have hC5 := hC4.ss hW4 q5 (fun x j z => by unfold BV at z; omega) hQ5 hV5 (SOk.dr hW1 hm)
    simp only [pu_s, v101_81, v101_82, nI_1]
    rw [v101_85]
    exact ih (k + 1) h5 _ _ _ (by omega) ((((hf.tr q2).tr q3).tr q4).tr (q5.mo (fun x j z => by unfold BV at z; unfold CW; omega))) hC5
theorem k101 (hC : CL b A h) (hW : WF A) (n : Int32) (kk : ∀ h2, Fr (CW b) h h2 → CL b (oDrw A n).1 h2 → K (some (.int (oDrw A n).2)) h2) : AM 101 [.ref b, .int n] h K := by
  obtain ⟨⟨cn, kb, f0, f1, f3, f4, f5, f6⟩, hST, hKP, hTR, hTA, ⟨s1, s2, s3⟩, hRF⟩ := id hC
  unfold oDrw at kk
  cases hn : rgI 1 24 n with
  | none =>
    rw [hn] at kk
    simp only [e101, v101_0, v101_1, v101_2, v101_4, v101_7, v101_10, v101_11, v101_13, c123, ri_0_7, ri_0_4, ri_0_40, ri_0_5, ri_1_99, ri_1_9, ri_0_99, ri_0_9, ri_0_6, ri_0_3, ri_0_255, ri_1_24, ri_3_39, ri_0_1, ri_0_8, ri_0_2, ri_1_30, ri_0_14, ri_12_16, hn, kb, f0, f1, f3, f4, f5, f6, vrf_s, true_and, true_or, or_true, and_self, not_false_eq_true, pu_s, pu_n, z2_e0, z2_n0, z2_t, z2_f, Option.isSome_none, reduceIte, not_true_eq_false, not_false_eq_true]
    exact k108 (w := 0) hC hW (by decide) (by decide) (fun h2 q2 hC2 => by simp only [pu_s, v101_16]; exact kk h2 q2 hC2)
  | some n' =>
    rw [hn] at kk
    obtain ⟨rfl, -, hn24⟩ := rgI_s (by decide) (by decide) hn
    simp only [e101, v101_0, v101_1, v101_2, v101_4, v101_7, v101_17, v101_18, c123, ri_0_7, ri_0_4, ri_0_40, ri_0_5, ri_1_99, ri_1_9, ri_0_99, ri_0_9, ri_0_6, ri_0_3, ri_0_255, ri_1_24, ri_3_39, ri_0_1, ri_0_8, ri_0_2, ri_1_30, ri_0_14, ri_12_16, hn, kb, f0, f1, f3, f4, f5, f6, vrf_s, true_and, true_or, or_true, and_self, not_false_eq_true, pu_s, pu_n, z2_e0, z2_n0, z2_t, z2_f, Option.isSome_some, i10, reduceIte, not_true_eq_false, not_false_eq_true]
    exact k101_l hC hW hn24 kk _ 0 h _ _ _ (Nat.zero_add _) Fr.rf hC
theorem k227_l (hR : MR m u A h) (hW : WF A) {n : Nat} (hn : n ≤ 24) (kk : ∀ h2, MG m h h2 → MR m u (dwK A (min n (24 - sM (aS A)))) h2 → K (some (.int (nI (min n (24 - sM (aS A)))))) h2) :
    ∀ (d k : Nat) (h1 : Hp) (v3 v4 : Value), k + d = min n (24 - sM (aS A)) → Fr (fun x _ => m ≤ x) h h1 → MR m u (dwK A k) h1 → V 227 21 [.ref m, .int (nI n), .int (nI k), v3, v4] [] h1 K := by
  have hm24 := hW.1.2.1
  intro d
  induction d with
  | zero =>
    intro k h1 v3 v4 hk hf hR1
    obtain ⟨r0, hM, hpp, hP, hQ, hS, hT, hF, hL⟩ := id hR1
    have em : gI h1 m 11 = nI (sM (aS A) + k) := by rw [← dwK_m]; exact hP.2.1
    rw [← hk] at kk
    have := kk h1 (MG.of hf (fun a j z => z)) hR1
    by_cases g : n ≤ k
    · have e1 : (nI n ≤ nI k) = True := eq_true (nI_le g (by omega))
      simp only [v227_21, v227_22, v227_23, v227_71, v227_72, e1, reduceIte]
      exact this
    · have e1 : (nI n ≤ nI k) = False := eq_false (nI_ge (by omega) (by omega))
      have e2 : ((24 : Int32) ≤ nI (sM (aS A) + k)) = True := eq_true (nI_le (a := 24) (by omega) (by omega))
      simp only [v227_21, v227_22, v227_23, v227_26, v227_27, v227_30, v227_32, v227_71, v227_72, hM.k0, em, e1, e2, reduceIte, true_and]
      exact this
  | succ d ih =>
    intro k h1 v3 v4 hk hf hR1
    obtain ⟨r0, hM, hpp, hP, hQ, hS, hT, hF, hL⟩ := id hR1
    have em : gI h1 m 11 = nI (sM (aS A) + k) := by rw [← dwK_m]; exact hP.2.1
    have e1 : (nI n ≤ nI k) = False := eq_false (nI_ge (by omega) (by omega))
    have e2 : ((24 : Int32) ≤ nI (sM (aS A) + k)) = False := eq_false (nI_ge (b := 24) (by omega) (by omega))
    have hW1 := hW.dwK k (by omega)
    have l1 := dwN_lt (aQ (sdA (dwK A k))).2.2 (n := 7) (by decide)
    have l2 := dwN_lt (aQ (sdA (sdA (dwK A k)))).2.2 (n := 4) (by decide)
    have l3 := dwN_lt (aQ (sdA (sdA (sdA (dwK A k))))).2.2 (n := 60) (by decide)
    simp only [v227_21, v227_22, v227_23, v227_26, v227_27, v227_30, v227_32, v227_35, v227_36, v227_38, hM.k0, em, e1, e2, reduceIte, true_and]
    refine d226 (n := 7) hR1 hW1 (by decide) (by decide) (fun h2 q2 hR2 => ?_)
    have z1 := hR2.2.1.k0
    have hW2 : WF (sdA (dwK A k)) := hW1.sd
    simp only [pu_s, v227_41, v227_42, v227_43, v227_44, z1, true_and]
    refine d226 (n := 4) hR2 hW2 (by decide) (by decide) (fun h3 q3 hR3 => ?_)
    have z2' := hR3.2.1.k0
    have hW3 : WF (sdA (sdA (dwK A k))) := hW2.sd
    simp only [pu_s, v227_47, v227_49, v227_50, v227_51, v227_53, v227_54, v227_56, z2', true_and]
    refine d226 (n := 60) hR3 hW3 (by decide) (by decide) (fun h4 q4 hR4 => ?_)
    obtain ⟨-, hM4, -, hP4, -⟩ := id hR4
    have z3 := hM4.k0
    have hW4 : WF (sdA (sdA (sdA (dwK A k)))) := hW3.sd
    simp only [pu_s, v227_59, v227_60, v227_61, z3, true_and, nI_1]
    have hm : sM (aS (dwK A k)) < 24 := by rw [dwK_m]; omega
    rw [aS_sd, aS_sd, aS_sd] at hP4
    refine c151 hM4 hP4 hW1.1 hm (by omega) (fun h5 q5 hP5 => ?_)
    have hR5 := hR4.ss hW4 q5 (fun a j z => by unfold BX at z; omega) hP5
    simp only [pu_s, v227_64, v227_65, nI_1]
    rw [v227_68]
    exact ih (k + 1) h5 _ _ (by omega) ((((hf.tr q2).tr q3).tr q4).tr (q5.mo (fun x j z => by unfold BX at z; omega))) hR5
theorem k227 (hR : MR m u A h) (hW : WF A) (n : Int32) (kk : ∀ (h2 : Hp) (u2 : LU), MG m h h2 → MR m u2 (oDrw A n).1 h2 → K (some (.int (oDrw A n).2)) h2) : AM 227 [.ref m, .int n] h K := by
  obtain ⟨r0, hM, hpp, hP, hQ, hS, hT, hF, hL⟩ := id hR
  unfold oDrw at kk
  replace kk := fun h2 => kk h2 u
  cases hn : rgI 1 24 n with
  | none =>
    rw [hn] at kk
    simp only [e227, v227_0, v227_1, v227_2, v227_3, v227_6, v227_9, v227_12, v227_13, v227_15, c135, rj_0_7, rj_0_4, rj_0_40, rj_0_5, rj_1_99, rj_1_9, rj_0_99, rj_0_9, rj_0_6, rj_0_3, rj_0_255, rj_1_24, rj_3_39, rj_0_1, rj_0_8, rj_0_2, rj_1_30, rj_0_14, rj_12_16, hn, hM.f0, hM.f1, hM.f2, hM.f3, hM.f4, hM.f5, hM.f6, hM.f8, hM.f10, hM.f12, hM.f13, hM.f25, hM.f27, hM.f28, hM.f36, hM.f37, hM.f38, hM.f40, hM.k0, hM.k1, hM.k2, hM.k3, hM.k4, hM.k13, hM.k14, hM.k15, hM.k16, hM.k17, hM.k26, hM.k51, hM.k52, hM.k53, hM.k54, hM.k55, hM.k56, hM.k57, hM.k58, hM.n1, hM.n2, hM.n3, hM.n4, hM.n13, hM.n14, hM.n15, hM.n16, hM.n17, hM.n26, hM.n51, hM.n52, hM.n53, hM.n54, hM.n55, hM.n56, hM.n57, hM.n58, vrf_s, true_or, or_true, true_and, and_true, and_self, not_false_eq_true, pu_s, pu_n, z2_e0, z2_n0, z2_t, z2_f, Option.isSome_none, reduceIte, not_true_eq_false, not_false_eq_true]
    exact k134 (w := 0) hR hW (by decide) (by decide) (fun h2 q2 hR2 => by simp only [pu_s, v227_18]; exact kk h2 (MG.of q2 (fun a j z => by omega)) hR2)
  | some n' =>
    rw [hn] at kk
    obtain ⟨rfl, -, hn24⟩ := rgI_s (by decide) (by decide) hn
    simp only [e227, v227_0, v227_1, v227_2, v227_3, v227_6, v227_9, v227_19, v227_20, c135, rj_0_7, rj_0_4, rj_0_40, rj_0_5, rj_1_99, rj_1_9, rj_0_99, rj_0_9, rj_0_6, rj_0_3, rj_0_255, rj_1_24, rj_3_39, rj_0_1, rj_0_8, rj_0_2, rj_1_30, rj_0_14, rj_12_16, hn, hM.f0, hM.f1, hM.f2, hM.f3, hM.f4, hM.f5, hM.f6, hM.f8, hM.f10, hM.f12, hM.f13, hM.f25, hM.f27, hM.f28, hM.f36, hM.f37, hM.f38, hM.f40, hM.k0, hM.k1, hM.k2, hM.k3, hM.k4, hM.k13, hM.k14, hM.k15, hM.k16, hM.k17, hM.k26, hM.k51, hM.k52, hM.k53, hM.k54, hM.k55, hM.k56, hM.k57, hM.k58, hM.n1, hM.n2, hM.n3, hM.n4, hM.n13, hM.n14, hM.n15, hM.n16, hM.n17, hM.n26, hM.n51, hM.n52, hM.n53, hM.n54, hM.n55, hM.n56, hM.n57, hM.n58, vrf_s, true_or, or_true, true_and, and_true, and_self, not_false_eq_true, pu_s, pu_n, z2_e0, z2_n0, z2_t, z2_f, Option.isSome_some, i10, reduceIte, not_true_eq_false, not_false_eq_true]
    exact k227_l hR hW hn24 kk _ 0 h _ _ (Nat.zero_add _) Fr.rf hR
end
