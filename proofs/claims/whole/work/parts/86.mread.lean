/-! THE REFERENCE'S SALE -/
def PX (m x j : Nat) : Prop := PWm m x j ∨ (x = m ∧ j = 26)
theorem PX.w {m x j : Nat} (z : PWm m x j) : PX m x j := Or.inl z
section
variable {c m a x : Nat} {p p' : TPE} {T : TKN} {s : SG} {h h1 : Hp} {K : Option Value → Hp → Prop} {u : LU} {A : XA} {q : XQ} {F : Nat → Nat → Prop}
theorem RM.c26 (hR : RM c m p T s h) {v : Int32} : RM c m p T s (pI h m 26 v) := by
  obtain ⟨r1, r2, r3, r4, r5, r6, r7, r8, r9⟩ := hR
  have w : Fr (fun x j => x = m ∧ j = 26) h (pI h m 26 v) := Fr.rf.pI ⟨rfl, rfl⟩
  have key : ∀ j ∈ mfL.map (fun q => q.1), j ≠ 26 := by decide
  exact ⟨r1.fr w (fun a j z => by omega), r2, r3.fr w (fun a j z => ⟨by omega, fun v => key j v.2 z.2⟩), ⟨r4.1.fr w (fun u j z => by omega), by rw [gI_ne (by omega)]; exact r4.2.1, by rw [gI_ne (by omega)]; exact r4.2.2.1, by rw [gI_ne (by omega)]; exact r4.2.2.2.1, by rw [gI_ne (by omega)]; exact r4.2.2.2.2⟩, r5, r6, r7, r8.fr r9 w (fun a j z => ⟨fun v => by omega, fun v => by omega, fun v => by omega⟩), r9⟩
def sal2 (p : TPE) (d : Nat) (s : SG) (T : TKN) (c : Nat) : Bool × SG × Nat := if kT T = 0 then (true, s, c) else if kT T = 3 then sal p d s (nxT p T) (c + 1) else (false, s, sT0 T)
theorem c172_l (hM0 : MSh m h) {R : Bool × SG × Nat} (kt : R.1 = true → ∀ h2, Fr (PX m) h h2 → MSh m h2 → MP m R.2.1 h2 → SOk R.2.1 → gI h2 m 26 = nI R.2.2 → K (some (.int 1)) h2) (kf : R.1 = false → ∀ h2 s', Fr (PX m) h h2 → MSh m h2 → MP m s' h2 → SOk s' → gI h2 m 24 = nI R.2.2 → K (some (.int 0)) h2) :
    ∀ (d n : Nat) (s' : SG) (T : TKN) (h1 : Hp), sal2 p d s' T n = R → p.1 ≤ sT0 T + d → Fr (PX m) h h1 → RM c m p T s' h1 → gI h1 m 26 = nI n → V 172 23 [.ref m] [] h1 K := by
  intro d
  induction d with
  | zero =>
    intro n s' T h1 he hd hf hR e26
    obtain ⟨r1, r2, r3, r4, r5, r6, r7, r8, r9⟩ := id hR
    have e0 : (nI (kT T) = 0) = (kT T = 0) := neqN (c := 0) (by have := r5.1; omega) (by decide)
    have e3 : (nI (kT T) = 3) = (kT T = 3) := neqN (c := 3) (by have := r5.1; omega) (by decide)
    unfold sal2 at he
    by_cases g0 : kT T = 0
    · rw [if_pos g0] at he
      subst he
      have g0' : (kT T = 0) = True := eq_true g0
      simp only [v172_23, v172_24, v172_27, v172_69, v172_70, r3.k0, r4.2.1, e0, g0', bo_1, true_and, reduceIte]
      exact kt rfl h1 hf r3 r8 r9 e26
    · have := r5.2.2.2.2 g0
      have := r5.2.2.1
      omega
  | succ d ih =>
    intro n s' T h1 he hd hf hR e26
    obtain ⟨r1, r2, r3, r4, r5, r6, r7, r8, r9⟩ := id hR
    have e0 : (nI (kT T) = 0) = (kT T = 0) := neqN (c := 0) (by have := r5.1; omega) (by decide)
    have e3 : (nI (kT T) = 3) = (kT T = 3) := neqN (c := 3) (by have := r5.1; omega) (by decide)
    unfold sal2 at he
    by_cases g0 : kT T = 0
    · rw [if_pos g0] at he
      subst he
      have g0' : (kT T = 0) = True := eq_true g0
      simp only [v172_23, v172_24, v172_27, v172_69, v172_70, r3.k0, r4.2.1, e0, g0', bo_1, true_and, reduceIte]
      exact kt rfl h1 hf r3 r8 r9 e26
    · rw [if_neg g0] at he
      have g0' : (kT T = 0) = False := eq_false g0
      by_cases g3 : kT T = 3
      · rw [if_pos g3] at he
        have g3' : (kT T = 3) = True := eq_true g3
        simp only [v172_23, v172_24, v172_27, v172_30, v172_31, v172_34, v172_35, v172_43, v172_44, r3.k0, r4.2.1, e0, g0', e3, g3', true_and, reduceIte]
        refine rmx hR (fun h2 q2 hR2 => ?_)
        have f2 := hf.tr (q2.mo (G := PX m) (fun x j z => PX.w (MW.p z)))
        have k0 := hR2.2.2.1.k0
        have e26' : gI h2 m 26 = nI n := (q2.i (fun z => by unfold MW at z; omega)).trans e26
        simp only [pu_n, v172_47, v172_48, k0, true_and]
        obtain ⟨n1, n2, n3⟩ := nx_ok r5
        have hlt := r5.2.2.2.2 g0
        have r : sal p (d + 1) s' (nxT p T) (n + 1) = if (stm p s' (nxT p T)).1 = true then sal2 p d (stm p s' (nxT p T)).2.1 (stm p s' (nxT p T)).2.2 (n + 1) else (false, (stm p s' (nxT p T)).2.1, sT0 (stm p s' (nxT p T)).2.2) := rfl
        have e' : sal p (d + 1) s' (nxT p T) (n + 1) = R := he
        rw [r] at e'
        refine c171 hR2 ⟨fun hr h3 w3 hR3 => ?_, fun hr h3 s3 w3 a1 a2 a3 a4 => ?_⟩
        · rw [hr, if_pos rfl] at e'
          have f3 := f2.tr (w3.mo (G := PX m) (fun x j z => PX.w z))
          have k0 := hR3.2.2.1.k0
          have e26'' : gI h3 m 26 = nI n := (w3.i (fun z => by unfold PWm at z; omega)).trans e26'
          simp only [pu_s, v172_51, v172_56, v172_57, v172_58, v172_61, v172_62, v172_63, i10, k0, e26'', not_false_eq_true, true_and, reduceIte, nI_1]
          rw [v172_66]
          obtain ⟨-, -, ok3⟩ := stm_ok r9 n1
          have := (ok3 hr).1
          have := n1.2.1
          exact ih (n + 1) _ _ _ e' (by omega) (f3.pI (Or.inr ⟨rfl, rfl⟩)) hR3.c26 (gI_at _ _ _ _)
        · rw [hr, if_neg Bool.false_ne_true] at e'
          subst e'
          simp only [pu_s, v172_51, v172_54, v172_55, bo_0, not_true_eq_false, true_and, reduceIte]
          exact kf rfl h3 s3 (f2.tr (w3.mo (fun x j z => PX.w z))) a1 a2 a3 a4
      · rw [if_neg g3] at he
        subst he
        have g3' : (kT T = 3) = False := eq_false g3
        simp only [v172_23, v172_24, v172_27, v172_30, v172_31, v172_34, v172_35, v172_38, v172_39, r3.k0, r4.2.1, e0, g0', e3, g3', true_and, reduceIte]
        refine c164 hR (fun h3 s3 w3 a1 a2 a3 a4 => ?_)
        simp only [pu_s, v172_42, bo_0, true_and]
        exact kf rfl h3 s3 (hf.tr (w3.mo (fun x j z => PX.w z))) a1 a2 a3 a4
theorem c172 (cn : CN c h) (hcm : c ≤ m) (hM : MSh m h) (hT : MTA m p h) (hp : p.1 ≤ 250) (hb : ∀ j, j < p.1 → p.2 j ≤ 255) (hP : MP m s h) (hO : SOk s) {R : Bool × SG × Nat} (hRR : sal p (p.1 + 1) s (tok p 0) 1 = R) (kt : R.1 = true → ∀ h2, Fr (PX m) h h2 → MSh m h2 → MP m R.2.1 h2 → SOk R.2.1 → gI h2 m 26 = nI R.2.2 → K (some (.int 1)) h2) (kf : R.1 = false → ∀ h2 s', Fr (PX m) h h2 → MSh m h2 → MP m s' h2 → SOk s' → gI h2 m 24 = nI R.2.2 → K (some (.int 0)) h2) : AM 172 [.ref m] h K := by
  have w : Fr (fun x j => x = m ∧ (j = 20 ∨ j = 26)) h (pI (pI h m 26 1) m 20 0) := (Fr.rf.pI ⟨rfl, Or.inr rfl⟩).pI ⟨rfl, Or.inl rfl⟩
  have key : ∀ j ∈ mfL.map (fun q => q.1), ¬ (j = 20 ∨ j = 26) := by decide
  have hM1 : MSh m (pI (pI h m 26 1) m 20 0) := hM.fr w (fun a j z => ⟨by omega, fun v => key j v.2 z.2⟩)
  simp only [e172, v172_0, v172_1, v172_2, v172_5, v172_6, v172_7, v172_10, v172_11, gI_pJ, gI_pR, gJ_pI, gJ_pR, gR_pI, gR_pJ, gK_pI, gK_pJ, gK_pR, gN_pI, gN_pJ, gN_pR, gX_pI, gX_pJ, gX_pR, gS_pI, gS_pJ, gS_pR, gK_cpI, gN_cpI, gK_cpJ, gN_cpJ, gR_cpI, gR_cpJ, gJ_cpI, gI_cpJ, hM.k0, true_and]
  refine c163 (e := 0) hM1 (hT.fr w (fun a j z => by omega)) hp hb (Nat.zero_le _) (gI_at _ _ _ _) (fun h2 q2 hC2 => ?_)
  have f2 : Fr (PX m) h h2 := (w.mo (fun x j z => by unfold PX PWm; omega)).tr (q2.mo (fun x j z => PX.w (MW.p z)))
  obtain ⟨o1, o2, o3⟩ := tok_ok (p := p) (e := 0) (Nat.zero_le _)
  have hP2 : MP m s h2 := (hP.fr hO w (fun a j z => ⟨fun v => by omega, fun v => by omega, fun v => by omega⟩)).fr hO q2 (fun a j z => by unfold MW at z; exact ⟨fun v => by omega, fun v => by omega, fun v => by omega⟩)
  have hR2 : RM c m p (tok p 0) s h2 := ⟨cn.fr f2 (fun a j z => by unfold PX PWm at z; omega), hcm, hM1.nw q2, hC2, o1, hp, hb, hP2, hO⟩
  have e26 : gI h2 m 26 = 1 := (q2.i (fun z => by unfold MW at z; omega)).trans ((gI_ne (by omega)).trans (gI_at _ _ _ _))
  have k0 := hR2.2.2.1.k0
  have r : sal p (p.1 + 1) s (tok p 0) 1 = if (stm p s (tok p 0)).1 = true then sal2 p p.1 (stm p s (tok p 0)).2.1 (stm p s (tok p 0)).2.2 1 else (false, (stm p s (tok p 0)).2.1, sT0 (stm p s (tok p 0)).2.2) := rfl
  rw [r] at hRR
  simp only [pu_n, v172_14, v172_15, k0, true_and]
  refine c171 hR2 ⟨fun hr h3 w3 hR3 => ?_, fun hr h3 s3 w3 a1 a2 a3 a4 => ?_⟩
  · rw [hr, if_pos rfl] at hRR
    have f3 := f2.tr (w3.mo (G := PX m) (fun x j z => PX.w z))
    simp only [pu_s, v172_18, i10, not_false_eq_true, reduceIte]
    exact c172_l hM kt kf p.1 1 _ _ h3 hRR (by omega) f3 hR3 ((w3.i (fun z => by unfold PWm at z; omega)).trans e26)
  · rw [hr, if_neg Bool.false_ne_true] at hRR
    subst hRR
    simp only [pu_s, v172_18, v172_21, v172_22, bo_0, not_true_eq_false, true_and, reduceIte]
    exact kf rfl h3 s3 (f2.tr (w3.mo (fun x j z => PX.w z))) a1 a2 a3 a4
theorem MR.asm (hR : MR m u A h) (hM : MSh m h1) (w : Fr F h h1) (hF : ∀ a j, F a j → MY m a j ∨ (a = m ∧ j = 7)) (hp : PP m p0 h1) (hP : MP m s h1) (hQ : MCs m q h1) (hT : MTA m p' h1) : MR m u (wP (wQ (wS A s) q) p') h1 := by
  obtain ⟨r0, r1, r2, r3, r4, r5, r6, r7, r8⟩ := hR
  exact ⟨by rw [w.2.2.1]; exact r0, hM, hp, hP, hQ, r5.fr w (fun a j z => by have := hF a j z; unfold MY at this; omega), hT, r7.fr w (fun a j z => by have := hF a j z; unfold MY at this; omega), r8.fr w (fun a j z => by have := hF a j z; unfold MY at this; omega)⟩
theorem PX.y {m a j : Nat} (z : PX m a j) : MY m a j := by unfold PX PWm at z; unfold MY; omega
theorem k173 (cn : CN c h) (hcm : c ≤ m) (hR : MR m u A h) (hW : WF A) (kk : ∀ (h2 : Hp) (u2 : LU), MG m h h2 → MR m u2 (oSal A).1 h2 → K (some (.int (oSal A).2)) h2) : AM 173 [.ref m] h K := by
  have k0 := hR.2.1.k0
  simp only [e173, v173_0, v173_1, k0, true_and]
  refine c231 hR hW (fun h2 u2 x w2 hX1 hX2 hS2 hR2 hu hOB hPx hQx => ?_)
  obtain ⟨r0, hM, hpp, hP, hQ, hS, hT, hF, hL⟩ := id hR2
  have k0 := hM.k0
  simp only [pu_s, v173_4, v173_5, v173_6, k0, true_and]
  have hx := hOB.1
  have pxm : ∀ a j, PX m a j → m ≤ a ∧ a < m + 59 := fun a j z => by unfold PX PWm at z; omega
  refine c172 (cn.ag (w2.mo hcm)) hcm hM hT hW.2.2.1 hW.2.2.2.1 hP hW.1 rfl (fun hr h3 q3 hM3 hP3 hO3 e26 => ?_) (fun hr h3 s3 q3 hM3 hP3 hO3 e24 => ?_)
  · -- it has been read
    have q4 : Fr (fun x j => x = m ∧ j = 7) h3 (pI h3 m 7 0) := Fr.rf.pI ⟨rfl, rfl⟩
    have w24 : Fr (fun a j => PX m a j ∨ (a = m ∧ j = 7)) h2 (pI h3 m 7 0) := (q3.mo (fun x j z => Or.inl z)).tr (q4.mo (fun x j z => Or.inr z))
    have key : ∀ j ∈ mfL.map (fun q => q.1), j ≠ 7 := by decide
    have hM4 : MSh m (pI h3 m 7 0) := hM3.fr q4 (fun a j z => ⟨by omega, fun v => key j v.2 z.2⟩)
    have e26' : gI (pI h3 m 7 0) m 26 = nI (sal (aP A) ((aP A).1 + 1) (aS A) (tok (aP A) 0) 1).2.2 := (gI_ne (by omega)).trans e26
    unfold oSal at kk
    rw [if_pos hr] at kk
    simp only [pu_s, v173_9, v173_10, v173_11, v173_12, v173_15, v173_16, v173_39, v173_40, v173_43, i10, hM3.k0, hM4.k0, e26', not_false_eq_true, true_and, reduceIte]
    refine kk _ u2 ⟨w2.tr (Ag.of w24 (fun a j z => by rcases z with z | z; have := pxm a j z; omega; omega)), by rw [w24.2.2.1]; omega, by rw [w24.2.2.1]; omega, by rw [w24.2.2.2.1]; omega⟩ ?_
    exact hR2.asm (q := aQ A) hM4 w24 (fun a j z => z.elim (fun z => Or.inl (PX.y z)) Or.inr) (hpp.fr w24 (fun j _ _ z => by unfold PX PWm at z; omega)) (hP3.fr hO3 q4 (fun a j z => ⟨fun v => by omega, fun v => by omega, fun v => by omega⟩)) (hQ.fr w24 (fun j _ _ z => by unfold PX PWm at z; omega)) ⟨gI_at _ _ _ _, fun j hj => absurd hj (Nat.not_lt_zero j)⟩
  · -- it is put back
    have q4 : Fr (fun x j => x = m ∧ j = 7) h3 (pI h3 m 7 0) := Fr.rf.pI ⟨rfl, rfl⟩
    have key : ∀ j ∈ mfL.map (fun q => q.1), j ≠ 7 := by decide
    have hM4 : MSh m (pI h3 m 7 0) := hM3.fr q4 (fun a j z => ⟨by omega, fun v => key j v.2 z.2⟩)
    have w24 : Fr (fun a j => PX m a j ∨ (a = m ∧ j = 7)) h2 (pI h3 m 7 0) := (q3.mo (fun x j z => Or.inl z)).tr (q4.mo (fun x j z => Or.inr z))
    have nx : ∀ a j, (PX m a j ∨ (a = m ∧ j = 7)) → a < x ∨ x + 59 ≤ a := fun a j z => by rcases z with z | z; have := pxm a j z; omega; omega
    have hOB4 := hOB.fr w24 nx
    have hPx4 : MP x (aS A) (pI h3 m 7 0) := hPx.fr hW.1 w24 (fun a j z => by have := nx a j z; have : a < m + 59 := (by rcases z with z | z; have := pxm a j z; omega; omega); exact ⟨fun v => by omega, fun v => by omega, fun v => by omega⟩)
    have hQx4 : MCs x (aQ A) (pI h3 m 7 0) := hQx.fr w24 (fun j _ _ z => by have : x < m + 59 := (by rcases z with z | z; have := pxm x j z; omega; omega); omega)
    have kx := hOB4.2.2.1.k0
    unfold oSal at kk
    rw [if_neg (by rw [hr]; exact Bool.false_ne_true)] at kk
    simp only [pu_s, v173_9, v173_10, v173_11, v173_12, v173_15, v173_16, v173_19, v173_20, v173_21, hM3.k0, hM4.k0, kx, not_true_eq_false, true_and, reduceIte]
    refine c233 hM4 hOB4.2.2.1 (Or.inl hx) hPx4 hQx4 hW.1 (fun h5 q5 hP5 hQ5 => ?_)
    have tkm : ∀ a j, TK m a j → m ≤ a ∧ a < m + 59 := fun a j z => by unfold TK at z; omega
    have w25 : Fr (fun a j => PX m a j ∨ (a = m ∧ j = 7) ∨ TK m a j) h2 h5 := (w24.mo (fun a j z => z.elim Or.inl (fun z => Or.inr (Or.inl z)))).tr (q5.mo (fun a j z => Or.inr (Or.inr z)))
    have hM5 := hM4.tk q5
    have hR5 := hR2.asm (s := aS A) (q := aQ A) (p' := (0, (aP A).2)) hM5 w25 (fun a j z => by rcases z with z | z | z; exact Or.inl (PX.y z); exact Or.inr z; exact Or.inl (by unfold TK at z; unfold MY; omega)) (hpp.fr w25 (fun j _ _ z => by unfold PX PWm TK at z; omega)) hP5 hQ5 ⟨(q5.i (fun z => by unfold TK at z; omega)).trans (gI_at _ _ _ _), fun j hj => absurd hj (Nat.not_lt_zero j)⟩
    have hR5' : MR m u2 (wP A (0, (aP A).2)) h5 := hR5
    have hW5 : WF (wP A (0, (aP A).2)) := ⟨hW.1, hW.2.1, Nat.zero_le _, fun j hj => absurd hj (Nat.not_lt_zero j), hW.2.2.2.2⟩
    have e24' : gI h5 m 24 = nI (sal (aP A) ((aP A).1 + 1) (aS A) (tok (aP A) 0) 1).2.2 := (q5.i (fun z => by unfold TK at z; omega)).trans ((gI_ne (by omega)).trans e24)
    simp only [pu_n, v173_24, v173_25, v173_27, hM5.k0, true_and]
    refine k134 (w := 0) hR5' hW5 (by decide) (by decide) (fun h6 q6 hR6 => ?_)
    have e24'' : gI h6 m 24 = nI (sal (aP A) ((aP A).1 + 1) (aS A) (tok (aP A) 0) 1).2.2 := (q6.i (fun z => by omega)).trans e24'
    have w26 : Fr (fun a j => m ≤ a) h2 h6 := (w25.mo (fun a j z => by rcases z with z | z | z; have := pxm a j z; omega; omega; have := tkm a j z; omega)).tr (q6.mo (fun a j z => by omega))
    simp only [pu_s, v173_30, v173_31, v173_33, v173_34, v173_37, v173_38, hR6.2.1.k0, e24'', true_and]
    exact kk h6 u2 ⟨w2.tr (Ag.of w26 (fun a j z => z)), by rw [w26.2.2.1]; omega, by rw [w26.2.2.1]; omega, by rw [w26.2.2.2.1]; omega⟩ hR6
end
