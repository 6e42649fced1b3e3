/-! IMAGE and BACK, on both sides -/
def oImg (A : XA) : XA × Int32 := (wK A (some (aS A, aQ A)), 1)
def clH (o : Option Nat) : Option Nat := if isTh o = true then none else o
def shB (sh : Nat → XH) (i : Nat) : Nat → XH := fun j => if j < i then (clH (sh j).1, (sh j).2) else sh j
theorem shB_0 (sh : Nat → XH) : shB sh 0 = sh := by
  funext j
  exact if_neg (Nat.not_lt_zero j)
theorem shB_s (sh : Nat → XH) (i : Nat) : up (shB sh i) i (clH (sh i).1, (sh i).2) = shB sh (i + 1) := by
  funext j
  by_cases e : j = i
  · subst e
    rw [up_at]
    exact (if_pos (Nat.lt_succ_self j)).symm
  · rw [up_ne e]
    unfold shB
    by_cases e2 : j < i
    · rw [if_pos e2, if_pos (by omega)]
    · rw [if_neg e2, if_neg (by omega)]
def oBck (A : XA) : XA × Int32 := match aK A with
  | none => rfI A 3 (-5)
  | some k => (wH (wQ (wS A k.1) k.2) (shB (aH A) 8), 1)
section
variable {b m x : Nat} {u : LU} {A : XA} {s : SG} {q : SG × XQ} {sh : Nat → XH} {k : Option (SG × XQ)} {h h1 h3 : Hp} {K : Option Value → Hp → Prop}
theorem CL.uh2 (hC : CL b A h) (hp : (aP A).1 ≤ 250) {F : Nat → Nat → Prop} (w : Fr F h h1) (hF : ∀ u j, F u j → u = b + 120 ∨ (b + 122 ≤ u ∧ u < b + 138)) (hT : SHC b sh h1) : CL b (wH A sh) h1 := by
  obtain ⟨c0, c1, c2, c3, c4, c5, c6⟩ := hC
  exact ⟨c0.fr w (fun a j z => by have := hF a j z; omega), c1.fr w (fun a j z => by have := hF a j z; omega), c2.fr w (fun a j z => by have := hF a j z; omega), c3.fr w (fun a j z => by have := hF a j z; omega), c4.fr hp w (fun a j z => by have := hF a j z; omega), hT, c6.fr w (fun a j z => by have := hF a j z; omega)⟩
theorem MR.uh2 (hR : MR m u A h) (hO : SOk (aS A)) {F : Nat → Nat → Prop} (w : Fr F h h1) (hF : ∀ a j, F a j → (m + 1 ≤ a ∧ a ≤ m + 3) ∨ (m + 5 ≤ a ∧ a ≤ m + 14)) (hf : MHS m sh h1) : MR m u (wH A sh) h1 := by
  obtain ⟨r0, r1, r2, r3, r4, r5, r6, r7, r8⟩ := hR
  exact ⟨by rw [w.2.2.1]; exact r0, r1.fr w (fun a j z => by have := hF a j z; exact ⟨by omega, fun v => by omega⟩), r2.fr w (fun j _ _ z => by have := hF _ _ z; omega), r3.fr hO w (fun a j z => by have := hF _ _ z; exact ⟨fun y => by omega, fun y => by omega, fun y => by omega⟩), r4.fr w (fun j _ _ z => by have := hF _ _ z; omega), hf, r6.fr w (fun a j z => by have := hF a j z; omega), r7.fr w (fun a j z => by have := hF a j z; omega), r8.fr w (fun a j z => by have := hF a j z; omega)⟩
theorem MR.ob2 (hR : MR m u A h) (hW : WF A) {F : Nat → Nat → Prop} (hx : m + 59 ≤ x) (w : Fr F h h1) (hF : ∀ a j, F a j → x ≤ a ∧ a < x + 59) (hL : MLZ m k u h1) : MR m u (wK A k) h1 := by
  obtain ⟨r0, r1, r2, r3, r4, r5, r6, r7, r8⟩ := hR
  exact ⟨by rw [w.2.2.1]; exact r0, r1.fr w (fun a j z => by have := hF a j z; exact ⟨by omega, fun v => by omega⟩), r2.fr w (fun j _ _ z => by have := hF _ _ z; omega), r3.fr hW.1 w (fun a j z => by have := hF _ _ z; exact ⟨fun y => by omega, fun y => by omega, fun y => by omega⟩), r4.fr w (fun j _ _ z => by have := hF _ _ z; omega), r5.fr w (fun a j z => by have := hF a j z; omega), r6.fr w (fun a j z => by have := hF a j z; omega), r7.fr w (fun a j z => by have := hF a j z; omega), hL⟩
theorem MR.new17 (hR : MR m u A h) (hW : WF A) (g1 : gX h1 = gX h + 59) (g3 : Ag (gX h) h h1) (w : Fr (fun a j => (a = m ∧ j = 17) ∨ (gX h ≤ a ∧ a < gX h + 59)) h1 h3) (hr : gR h3 m 17 = some (gX h)) (o3 : OB m (gX h) h3) (hk : SOk q.1) (hP : MP (gX h) q.1 h3) (hQ : MCs (gX h) q.2 h3) : MR m (some (gX h), u.2) (wK A (some q)) h3 := by
  have o2 : ∀ x, (u.1 = some x ∨ u.2.1 = some x ∨ u.2.2 = some x) → x + 59 ≤ gX h := fun x hx => (hR.2.2.2.2.2.2.2.2.2.2.2.1 x hx).2.1
  have hR1 := hR.ag hW g3 (by omega)
  have o1 := o3.1
  obtain ⟨r0, r1, r2, r3, r4, r5, r6, r7, l1, l2, l3, l4, l5, l6, l7, l8, l9⟩ := hR1
  have key : ∀ j ∈ mfL.map (fun q => q.1), j ≠ 17 := by decide
  refine ⟨by rw [w.2.2.1]; exact r0, r1.fr w (fun a j z => ⟨by omega, fun v => key j v.2 (by omega)⟩), r2.fr w (fun j _ _ z => by omega), r3.fr hW.1 w (fun a j z => ⟨fun y => by omega, fun y => by omega, fun y => by omega⟩), r4.fr w (fun j _ _ z => by omega), r5.fr w (fun a j z => by omega), r6.fr w (fun a j z => by omega), r7.fr w (fun a j z => by omega), hr, (w.r (fun z => by omega)).trans l2, (w.r (fun z => by omega)).trans l3, fun z hz => ?_, fun z y hz hy => ?_, fun z y hz hy => ?_, l7, rfl, fun q' z hq hz => ?_⟩
  · rcases hz with hz | hz | hz
    · cases hz; exact o3
    · exact (l4 z (Or.inr (Or.inl hz))).fr w (fun a j y => by have := (l4 z (Or.inr (Or.inl hz))).1; have := o2 z (Or.inr (Or.inl hz)); omega)
    · exact (l4 z (Or.inr (Or.inr hz))).fr w (fun a j y => by have := (l4 z (Or.inr (Or.inr hz))).1; have := o2 z (Or.inr (Or.inr hz)); omega)
  · cases hz
    exact Or.inr (o2 y (Or.inr (Or.inl hy)))
  · cases hz
    exact Or.inr (o2 y (Or.inr (Or.inr hy)))
  · cases hz
    cases hq
    exact ⟨hk, hP, hQ⟩
theorem k105 (hC : CL b A h) (hW : WF A) (kk : ∀ h2, Fr (CW b) h h2 → CL b (oImg A).1 h2 → K (some (.int (oImg A).2)) h2) : AM 105 [.ref b] h K := by
  obtain ⟨⟨cn, kb, f0, f1, f3, f4, f5, f6⟩, hST, hKP, hTR, hTA, ⟨s1, s2, s3⟩, hRF⟩ := id hC
  obtain ⟨ρ, β, hQ, hV, hO, q5, q6, q7⟩ := hST
  obtain ⟨k1, ⟨ρ', β', hQ'⟩, k3⟩ := hKP
  have kk1 := hQ'.1
  simp only [e105, v105_0, v105_1, v105_4, v105_5, v105_8, kb, f0, f1, f3, f4, f5, f6, vrf_s, true_and, true_or, or_true, and_self, not_false_eq_true, pu_s, pu_n, z2_e0, z2_n0, z2_t, z2_f, kk1]
  refine c20 (Or.inl (by omega)) hQ' hQ hV hO (fun h2 q2 hV2 x5 x6 x7 => ?_)
  have kb2 : gK h2 b = 6 := q2.1.k.trans kb
  simp only [pu_n, v105_11, v105_12, v105_13, v105_16, v105_17, kb2, true_and, or_true]
  have q3 : FI (fun x j => (b + 37 ≤ x ∧ x < b + 73) ∨ (x = b ∧ j = 2)) h (pI h2 b 2 1) := (q2.mo (fun x j z => by unfold BW at z; omega)).pI (Or.inr ⟨rfl, rfl⟩)
  have q4 : Fr (fun x j => x = b ∧ j = 2) h2 (pI h2 b 2 1) := Fr.rf.pI ⟨rfl, rfl⟩
  refine kk _ (q3.1.mo (fun x j z => by unfold CW; omega)) (hC.uk hW q3.1 (fun x j z => z) ⟨gI_at _ _ _ _, ⟨ρ', β', hQ'.fi q3⟩, fun q' hq => ?_⟩)
  cases hq
  exact ⟨ρ', β', hQ'.fi q3, SV.fr (hQ'.fi q2) hV2 hO q4 (fun x j z => by omega), hO, (q4.i (fun z => by omega)).trans (x5.trans q5), (q4.i (fun z => by omega)).trans (x6.trans q6), (q4.i (fun z => by omega)).trans (x7.trans q7)⟩
theorem k106_l (hW : WF A) (kb : gK h b = 6) (f5 : gR h b 5 = some (b + 120)) (kk : ∀ h2, Fr (fun x _ => b + 122 ≤ x ∧ x < b + 138) h h2 → SHC b (shB (aH A) 8) h2 → V 106 61 [.ref b, .int (nI 8)] [] h2 K) :
    ∀ (j i : Nat) (h1 : Hp), i + j = 8 → Fr (fun x _ => b + 122 ≤ x ∧ x < b + 138) h h1 → SHC b (shB (aH A) i) h1 → V 106 27 [.ref b, .int (nI i)] [] h1 K := by
  have hn8 := hW.1.1
  intro j
  induction j with
  | zero =>
    intro i h1 hi hf hS1
    have e : i = 8 := by omega
    subst e
    have e8 : ((8 : Int32) ≤ nI 8) = True := eq_true (by decide)
    simp only [v106_27, v106_28, v106_30, e8, reduceIte]
    exact kk h1 hf hS1
  | succ j ih =>
    intro i h1 hi hf hS1
    have e8 : ((8 : Int32) ≤ nI i) = False := eq_false (nI_ge (b := 8) (by omega) (by decide))
    have y6 : gK h1 b = 6 := hf.k.trans kb
    have y5 : gR h1 b 5 = some (b + 120) := (hf.r (fun z => by omega)).trans f5
    obtain ⟨s1, s2, s3⟩ := id hS1
    obtain ⟨x1, x2, x3, x4, x5, x6, x7, x8⟩ := s3 i (by omega)
    have hsi : shB (aH A) i i = aH A i := if_neg (Nat.lt_irrefl i)
    rw [hsi] at x6 x7
    have c1 : (nI i).toNatClampNeg = i := nIc (by omega)
    have i1 : inb (nI i) 8 = True := nIb (by omega) (by omega)
    have hsk := hW.2.2.2.2 i (by omega)
    have hb : ∀ k, (aH A i).1 = some k → k < 1000 := fun k hk => by
      have := hsk.2 k hk
      omega
    have r16 : ∀ {K : Option Value → Hp → Prop}, AM 16 [.ref (b + 122 + 2 * i)] h1 K = K (some (.int (z2 (isTh (aH A i).1)))) h1 := fun {K} => c16 x2 x6 hb
    by_cases g : isTh (aH A i).1 = true
    · simp only [v106_27, v106_28, v106_30, v106_33, v106_34, v106_37, v106_38, v106_39, v106_42, v106_45, v106_46, v106_49, v106_50, v106_51, v106_52, v106_55, e8, y6, y5, s1, s2, x1, x2, vrf_s, c1, i1, r16, g, pu_s, z2_e0, Bool.true_eq_false, reduceIte, true_and, true_or, or_true, and_self, nI_1]
      rw [v106_58]
      refine ih (i + 1) (pI h1 (b + 122 + 2 * i) 0 (-1)) (by omega) (hf.pI ⟨by omega, by omega⟩) ?_
      rw [← shB_s]
      have w : Fr (fun x _ => x = b + 122 + 2 * i ∨ x = b + 123 + 2 * i) h1 (pI h1 (b + 122 + 2 * i) 0 (-1)) := Fr.rf.pI (Or.inl rfl)
      refine SHC.put hS1 (by omega) w x3 ?_ ?_ (fun j hj => ?_)
      · rw [gI_at]
        show _ = oI (clH (aH A i).1)
        unfold clH
        rw [if_pos g]
        rfl
      · rw [gI_ne (by omega)]; exact x7
      · have := x8 j hj
        rw [hsi] at this
        exact this
    · have g' : isTh (aH A i).1 = false := by simpa using g
      simp only [v106_27, v106_28, v106_30, v106_33, v106_34, v106_37, v106_38, v106_39, v106_42, v106_55, e8, y6, y5, s1, s2, x1, x2, vrf_s, c1, i1, r16, g', pu_s, z2_e0, reduceIte, true_and, true_or, or_true, and_self, nI_1]
      rw [v106_58]
      refine ih (i + 1) _ (by omega) hf ?_
      rw [← shB_s]
      have : up (shB (aH A) i) i (clH (aH A i).1, (aH A i).2) = shB (aH A) i := by
        funext j
        by_cases e : j = i
        · subst e; rw [up_at, hsi]; unfold clH; rw [if_neg g]
        · rw [up_ne e]
      rw [this]
      exact hS1
theorem k106 (hC : CL b A h) (hW : WF A) (kk : ∀ h2, Fr (CW b) h h2 → CL b (oBck A).1 h2 → K (some (.int (oBck A).2)) h2) : AM 106 [.ref b] h K := by
  obtain ⟨⟨cn, kb, f0, f1, f3, f4, f5, f6⟩, hST, hKP, hTR, hTA, ⟨s1, s2, s3⟩, hRF⟩ := id hC
  obtain ⟨ρ, β, hQ, hV, hO, q5, q6, q7⟩ := hST
  obtain ⟨k1, ⟨ρ', β', hQ'⟩, k3⟩ := hKP
  unfold oBck at kk
  cases hk : aK A with
  | none =>
    rw [hk] at kk k1
    simp only [e106, v106_0, v106_1, v106_4, v106_7, v106_8, v106_10, kb, f0, f1, f3, f4, f5, f6, vrf_s, true_and, true_or, or_true, and_self, not_false_eq_true, pu_s, pu_n, z2_e0, z2_n0, z2_t, z2_f, k1, Option.isSome_none, Bool.false_eq_true, reduceIte, not_true_eq_false]
    exact k108 (w := 3) hC hW (by decide) (by decide) (fun h2 q2 hC2 => by simp only [pu_s, v106_13]; exact kk h2 q2 hC2)
  | some p =>
    rw [hk] at kk k1
    obtain ⟨ρ2, β2, hQ2, hV2, hO2, y5, y6, y7⟩ := k3 p hk
    have kk1 := hQ2.1
    have ks1 := hQ.1
    simp only [e106, v106_0, v106_1, v106_4, v106_14, v106_15, v106_18, v106_19, v106_22, kb, f0, f1, f3, f4, f5, f6, vrf_s, true_and, true_or, or_true, and_self, not_false_eq_true, pu_s, pu_n, z2_e0, z2_n0, z2_t, z2_f, k1, ks1, kk1, Option.isSome_some, i10, reduceIte, not_true_eq_false]
    refine c20 (Or.inr (by omega)) hQ hQ2 hV2 hO2 (fun h2 q2 hV3 x5 x6 x7 => ?_)
    have kb2 : gK h2 b = 6 := q2.1.k.trans kb
    have g5 : gR h2 b 5 = some (b + 120) := (congrFun (congrFun q2.2 b) 5).trans f5
    have hC2 := hC.us hW (s := p.1) (q := p.2) q2.1 (fun x j z => by unfold BW at z; omega) ⟨ρ, β, hQ.fi q2, hV3, hO2, x5.trans y5, x6.trans y6, x7.trans y7⟩
    obtain ⟨-, -, -, -, -, hS2, -⟩ := id hC2
    simp only [pu_n, v106_25, v106_26]
    refine k106_l (h := h2) hW kb2 g5 (fun h3 q3 hS3 => ?_) 8 0 h2 rfl Fr.rf (by rw [shB_0]; exact hS2)
    simp only [v106_61, v106_62]
    exact kk h3 ((q2.1.mo (fun x j z => by unfold BW at z; unfold CW; omega)).tr (q3.mo (fun x j z => by unfold CW; omega))) (hC2.uh2 hW.2.2.1 q3 (fun x j z => Or.inr z) hS3)
theorem k234 (hR : MR m u A h) (hW : WF A) (kk : ∀ (h2 : Hp) (u2 : LU), MG m h h2 → MR m u2 (oImg A).1 h2 → K (some (.int (oImg A).2)) h2) : AM 234 [.ref m] h K := by
  obtain ⟨r0, hM, hpp, hP, hQ, hS, hT, hF, hL⟩ := id hR
  have r17 : gR h m 17 = u.1 := hL.1
  cases hu : u.1 with
  | some x =>
    rw [hu] at r17
    have ns : ((some x : Option Nat) = none) = False := eq_false (by simp)
    have hO := hL.2.2.2.1 x (Or.inl hu)
    have kx := hO.2.2.1.k0
    simp only [e234, v234_0, v234_1, v234_4, hM.k0, r17, ns, true_and, reduceIte, not_false_eq_true]
    simp only [v234_18, v234_19, v234_22, v234_23, hM.k0, r17, vrf_s, kx, true_and]
    refine c233 hO.2.2.1 hM (Or.inr hO.1) hP hQ hW.1 (fun h2 q2 hP2 hQ2 => ?_)
    have hF : ∀ a j, TK x a j → x ≤ a ∧ a < x + 59 := fun a j z => by unfold TK at z; omega
    have hb := hO.1
    have hL2 := hL.kept (k' := (aS A, aQ A)) hu q2 hF (hO.tk q2) hW.1 hP2 hQ2
    simp only [pu_n, v234_26, v234_27]
    exact kk h2 u (MG.of q2 (fun a j z => by have := hF a j z; omega)) (hR.ob2 hW hO.1 q2 hF hL2)
  | none =>
    rw [hu] at r17
    have km : gK (mk1 h 7 0 41) (gX h) = 7 := if_pos rfl
    simp only [e234, v234_0, v234_1, v234_4, v234_7, v234_8, v234_11, v234_12, hM.k0, r17, true_and, reduceIte, km, not_true_eq_false]
    refine n133 (m := gX h) rfl (fun h1 g1 g2 g3 hN => ?_)
    obtain ⟨o1, o2⟩ := MLZ.new hR hW g1 g3 hN
    have hb := o1.1
    have k1 : gK h1 m = 7 := (g3.ak (by omega)).trans hM.k0
    have w1 : Fr (fun a j => a = m ∧ j = 17) h1 (pR h1 m 17 (some (gX h))) := Fr.rf.pR ⟨rfl, rfl⟩
    have o3 : OB m (gX h) (pR h1 m 17 (some (gX h))) := o1.fr w1 (fun a j z => by omega)
    have key : ∀ j ∈ mfL.map (fun q => q.1), j ≠ 17 := by decide
    have hR1 := hR.ag hW g3 (by omega)
    obtain ⟨-, hM1, -, hP1, hQ1, -⟩ := hR1
    have hM2 : MSh m (pR h1 m 17 (some (gX h))) := hM1.fr w1 (fun a j z => ⟨by omega, fun v => key j v.2 z.2⟩)
    have hP2 : MP m (aS A) (pR h1 m 17 (some (gX h))) := hP1.fr hW.1 w1 (fun a j z => ⟨fun y => by omega, fun y => by omega, fun y => by omega⟩)
    have hQ2 : MCs m (aQ A) (pR h1 m 17 (some (gX h))) := hQ1.fr w1 (fun j _ _ z => by omega)
    have r17' : gR (pR h1 m 17 (some (gX h))) m 17 = some (gX h) := gR_at _ _ _ _
    have kx := o3.2.2.1.k0
    simp only [pu_n, v234_15, k1, true_and]
    simp only [v234_18, v234_19, v234_22, v234_23, hM2.k0, r17', vrf_s, kx, true_and]
    refine c233 o3.2.2.1 hM2 (Or.inr o3.1) hP2 hQ2 hW.1 (fun h2 q2 hP3 hQ3 => ?_)
    have hF : ∀ a j, TK (gX h) a j → gX h ≤ a ∧ a < gX h + 59 := fun a j z => by unfold TK at z; omega
    have w3 : Fr (fun a j => (a = m ∧ j = 17) ∨ (gX h ≤ a ∧ a < gX h + 59)) h1 h2 := (w1.mo (fun a j z => Or.inl z)).tr (q2.mo (fun a j z => Or.inr (hF a j z)))
    simp only [pu_n, v234_26, v234_27]
    refine kk h2 _ ⟨(g3.mo (by omega)).tr (Ag.of w3 (fun a j z => by omega)), by rw [w3.2.2.1]; omega, by rw [w3.2.2.1]; omega, by rw [w3.2.2.2.1]; omega⟩ (MR.new17 (q := (aS A, aQ A)) hR hW g1 g3 w3 ((q2.r (fun z => by have := hF _ _ z; omega)).trans r17') (o3.tk q2) hW.1 hP3 hQ3)
theorem k235_l (hM : MSh m h) (hW : WF A) (kk : ∀ h2, Fr (fun x _ => x = m + 1) h h2 → MHS m (shB (aH A) 8) h2 → V 235 62 [.ref m, .int (nI 8)] [] h2 K) :
    ∀ (j i : Nat) (h1 : Hp), i + j = 8 → Fr (fun x _ => x = m + 1) h h1 → MHS m (shB (aH A) i) h1 → V 235 24 [.ref m, .int (nI i)] [] h1 K := by
  intro j
  induction j with
  | zero =>
    intro i h1 hi hf hS1
    have e : i = 8 := by omega
    subst e
    have e8 : ((8 : Int32) ≤ nI 8) = True := eq_true (by decide)
    simp only [v235_24, v235_25, v235_27, e8, reduceIte]
    exact kk h1 hf hS1
  | succ j ih =>
    intro i h1 hi hf hS1
    have e8 : ((8 : Int32) ≤ nI i) = False := eq_false (nI_ge (b := 8) (by omega) (by decide))
    have hM1 : MSh m h1 := hM.fr hf (fun a j z => ⟨by omega, fun y => by omega⟩)
    obtain ⟨y1, y2, y3, y4⟩ := hS1 i (by omega)
    have hsi : shB (aH A) i i = aH A i := if_neg (Nat.lt_irrefl i)
    rw [hsi] at y1 y2 y3 y4
    have c1 : (nI i).toNatClampNeg = i := nIc (by omega)
    have i1 : inb (nI i) 8 = True := nIb (by omega) (by omega)
    have put : ∀ (h2 : Hp) (v : Int32), v = nI (shC (clH (aH A i).1)) → h2 = pI h1 (m + 1) i v → Fr (fun x _ => x = m + 1) h h2 ∧ MHS m (shB (aH A) (i + 1)) h2 := fun h2 v hv hh => by
      subst hh
      have wf : Fr (fun x j => ((x = m + 1 ∨ x = m + 2 ∨ x = m + 3 ∨ x = m + 14) ∧ j = i) ∨ x = m + (5 + i)) h1 (pI h1 (m + 1) i v) := Fr.rf.pI (Or.inl ⟨Or.inl rfl, rfl⟩)
      refine ⟨hf.pI rfl, ?_⟩
      rw [← shB_s]
      refine hS1.put wf (by omega) ?_ (fun k2 hk2 => ?_) ?_ (fun j hj => ?_)
      · rw [gI_at]; exact hv
      · have hk3 : clH (aH A i).1 = some k2 := hk2
        unfold clH at hk3
        split at hk3
        · cases hk3
        · obtain ⟨z1, z2⟩ := y2 k2 hk3
          exact ⟨fun z => by rw [gI_ne (by omega)]; exact z1 z, fun z => by rw [gI_ne (by omega)]; exact z2 z⟩
      · rw [gI_ne (by omega)]; exact y3
      · exact y4 j hj
    rcases shTri (hW.2.2.2.2 i (by omega)) with ⟨g1, g2, g3, g4⟩ | ⟨k, g1, g1', g2, g3, g4⟩ | ⟨k, g1, g1', g1'', g2, g3, g4⟩
    · have hc : clH (aH A i).1 = (aH A i).1 := by unfold clH; rw [g4]; rfl
      obtain ⟨w1, w2⟩ := put _ (nI 0) (by rw [hc, g2]) rfl
      rw [g2] at y1
      simp only [v235_24, v235_25, v235_27, v235_30, v235_31, v235_34, v235_35, v235_36, v235_39, v235_40, v235_41, v235_42, v235_49, v235_50, v235_53, v235_54, v235_55, v235_56, e8, reduceIte, hM1.k0, hM1.f0, hM1.k1, hM1.n1, vrf_s, c1, i1, y1, q00, q01, q02, q10, q11, q12, q20, q21, q22, not_false_eq_true, true_and, true_or, and_self, nI_1]
      rw [v235_59]
      exact ih (i + 1) _ (by omega) w1 w2
    · have hc : clH (aH A i).1 = (aH A i).1 := by unfold clH; rw [g4]; rfl
      obtain ⟨w1, w2⟩ := put _ (nI 1) (by rw [hc, g2]) rfl
      rw [g2] at y1
      simp only [v235_24, v235_25, v235_27, v235_30, v235_31, v235_34, v235_35, v235_36, v235_39, v235_40, v235_41, v235_42, v235_49, v235_50, v235_53, v235_54, v235_55, v235_56, e8, reduceIte, hM1.k0, hM1.f0, hM1.k1, hM1.n1, vrf_s, c1, i1, y1, q00, q01, q02, q10, q11, q12, q20, q21, q22, not_false_eq_true, true_and, true_or, and_self, nI_1]
      rw [v235_59]
      exact ih (i + 1) _ (by omega) w1 w2
    · have hc : clH (aH A i).1 = none := by unfold clH; rw [g4]; rfl
      obtain ⟨w1, w2⟩ := put _ 0 (by rw [hc]; rfl) rfl
      rw [g2] at y1
      simp only [v235_24, v235_25, v235_27, v235_30, v235_31, v235_34, v235_35, v235_36, v235_39, v235_40, v235_41, v235_42, v235_45, v235_46, v235_55, v235_56, e8, reduceIte, hM1.k0, hM1.f0, hM1.k1, hM1.n1, vrf_s, c1, i1, y1, q00, q01, q02, q10, q11, q12, q20, q21, q22, not_true_eq_false, not_false_eq_true, true_and, true_or, and_self, nI_1]
      rw [v235_59]
      exact ih (i + 1) _ (by omega) w1 w2
theorem k235 (hR : MR m u A h) (hW : WF A) (kk : ∀ (h2 : Hp) (u2 : LU), MG m h h2 → MR m u2 (oBck A).1 h2 → K (some (.int (oBck A).2)) h2) : AM 235 [.ref m] h K := by
  obtain ⟨r0, hM, hpp, hP, hQ, hS, hT, hF, hL⟩ := id hR
  unfold oBck at kk
  replace kk := fun h2 => kk h2 u
  have r17 : gR h m 17 = u.1 := hL.1
  have l8 : (aK A).isSome = u.1.isSome := hL.2.2.2.2.2.2.2.1
  cases hk : aK A with
  | none =>
    rw [hk] at kk l8
    have hu : u.1 = none := by
      cases hu : u.1 with
      | none => rfl
      | some x => rw [hu] at l8; cases l8
    rw [hu] at r17
    simp only [e235, v235_0, v235_1, v235_4, v235_7, v235_8, v235_10, hM.k0, r17, true_and, reduceIte, not_true_eq_false]
    exact k134 (w := 3) hR hW (by decide) (by decide) (fun h2 q2 hR2 => by simp only [pu_s, v235_13]; exact kk h2 (MG.of q2 (fun a j z => by omega)) hR2)
  | some p =>
    rw [hk] at kk l8
    cases hu : u.1 with
    | none => rw [hu] at l8; cases l8
    | some x =>
      rw [hu] at r17
      have ns : ((some x : Option Nat) = none) = False := eq_false (by simp)
      have hO := hL.2.2.2.1 x (Or.inl hu)
      have hb := hO.1
      obtain ⟨y1, y2, y3⟩ := hL.2.2.2.2.2.2.2.2 p x hk hu
      have kx := hO.2.2.1.k0
      simp only [e235, v235_0, v235_1, v235_4, hM.k0, r17, ns, true_and, reduceIte, not_false_eq_true]
      simp only [v235_14, v235_15, v235_16, v235_19, hM.k0, r17, vrf_s, kx, true_and]
      refine c233 hM hO.2.2.1 (Or.inl hO.1) y2 y3 y1 (fun h2 q2 hP2 hQ2 => ?_)
      have hR2 := hR.upd hW q2 (fun a j z => by unfold TK at z; unfold MY; omega) (hpp.fr q2 (fun j _ _ z => by unfold TK at z; omega)) hP2 hQ2
      obtain ⟨r02, hM2, -, -, -, hS2, -⟩ := id hR2
      simp only [pu_n, v235_22, v235_23]
      refine k235_l (h := h2) hM2 hW (fun h3 q3 hS3 => ?_) 8 0 h2 rfl Fr.rf (by rw [shB_0]; exact hS2)
      have hR3 := hR2.uh2 y1 q3 (fun a j z => by omega) hS3
      simp only [v235_62, v235_63]
      exact kk h3 (MG.of (F := fun a j => m ≤ a) ((q2.mo (fun a j z => by unfold TK at z; omega)).tr (q3.mo (fun a j z => by omega))) (fun a j z => z)) hR3
end
