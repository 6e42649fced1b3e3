/-! THE REFERENCE READS A STATEMENT -/
def PWm (m x j : Nat) : Prop := (x = m ∧ ((20 ≤ j ∧ j ≤ 24) ∨ j = 9 ∨ j = 11)) ∨ (m + 18 ≤ x ∧ x < m + 26) ∨ (m + 27 ≤ x ∧ x ≤ m + 52)
def NM (m k x j : Nat) : Prop := (x = m ∧ 20 ≤ j ∧ j ≤ 24) ∨ (x = m + 52 ∧ j = k)
theorem NM.p {m k x j : Nat} (z : NM m k x j) : PWm m x j := by unfold NM at z; unfold PWm; omega
theorem MW.p {m x j : Nat} (z : MW m x j) : PWm m x j := by unfold MW at z; unfold PWm; omega
section
variable {c m a : Nat} {p : TPE} {T : TKN} {s : SG} {h h1 : Hp} {K : Option Value → Hp → Prop}
/-- what the reference reads from -/
def RM (c m : Nat) (p : TPE) (T : TKN) (s : SG) (h : Hp) : Prop := CN c h ∧ c ≤ m ∧ MSh m h ∧ MT m p T h ∧ TOk p T ∧ p.1 ≤ 250 ∧ (∀ j, j < p.1 → p.2 j ≤ 255) ∧ MP m s h ∧ SOk s
theorem PWm.sh (hM : MSh m h) (w : Fr (PWm m) h h1) : MSh m h1 := by
  have key : ∀ j ∈ mfL.map (fun q => q.1), ¬ ((20 ≤ j ∧ j ≤ 24) ∨ j = 9 ∨ j = 11) := by decide
  exact hM.fr w (fun a j z => by unfold PWm at z; exact ⟨by omega, fun v => key j v.2 (by omega)⟩)
theorem RM.nx (hR : RM c m p T s h) (w : Fr (MW m) h h1) (hC : MT m p (nxT p T) h1) : RM c m p (nxT p T) s h1 := by
  obtain ⟨r1, r2, r3, r4, r5, r6, r7, r8, r9⟩ := hR
  exact ⟨r1.fr w (fun a j z => by unfold MW at z; omega), r2, r3.nw w, hC, (tok_ok r5.2.2.1).1, r6, r7, r8.fr r9 w (fun a j z => by unfold MW at z; exact ⟨fun v => by omega, fun v => by omega, fun v => by omega⟩), r9⟩
theorem RM.nm (hR : RM c m p T s h) {k : Nat} {v : Int32} : RM c m p T s (pI h (m + 52) k v) := by
  obtain ⟨r1, r2, r3, r4, r5, r6, r7, r8, r9⟩ := hR
  have w : Fr (fun x j => x = m + 52) h (pI h (m + 52) k v) := Fr.rf.pI rfl
  exact ⟨r1.fr w (fun a j z => by omega), r2, r3.fr w (fun a j z => ⟨by omega, fun v => by omega⟩), ⟨r4.1.fr w (fun u j z => by omega), by rw [gI_ne (by omega)]; exact r4.2.1, by rw [gI_ne (by omega)]; exact r4.2.2.1, by rw [gI_ne (by omega)]; exact r4.2.2.2.1, by rw [gI_ne (by omega)]; exact r4.2.2.2.2⟩, r5, r6, r7, r8.fr r9 w (fun a j z => ⟨fun v => by omega, fun v => by omega, fun v => by omega⟩), r9⟩
theorem RM.tk {s' : SG} {F : Nat → Nat → Prop} (hR : RM c m p T s h) (w : Fr F h h1) (hF : ∀ x j, F x j → (x = m ∧ (j = 9 ∨ j = 11)) ∨ (m + 18 ≤ x ∧ x < m + 26) ∨ (m + 27 ≤ x ∧ x ≤ m + 51)) (hP : MP m s' h1) (hO : SOk s') : RM c m p T s' h1 := by
  obtain ⟨r1, r2, r3, r4, r5, r6, r7, r8, r9⟩ := hR
  exact ⟨r1.fr w (fun a j z => by have := hF a j z; omega), r2, PWm.sh r3 (w.mo (fun x j z => by have := hF x j z; unfold PWm; omega)), ⟨r4.1.fr w (fun u j z => by have := hF u j z; omega), (w.i (fun z => by have := hF _ _ z; omega)).trans r4.2.1, (w.i (fun z => by have := hF _ _ z; omega)).trans r4.2.2.1, (w.i (fun z => by have := hF _ _ z; omega)).trans r4.2.2.2.1, (w.i (fun z => by have := hF _ _ z; omega)).trans r4.2.2.2.2⟩, r5, r6, r7, hP, hO⟩
theorem rmx (hR : RM c m p T s h) (kk : ∀ h2, Fr (MW m) h h2 → RM c m p (nxT p T) s h2 → K none h2) : AM 163 [.ref m] h K := by
  obtain ⟨r1, r2, r3, r4, r5, r6, r7, r8, r9⟩ := id hR
  exact c163 r3 r4.1 r6 r7 r5.2.2.1 r4.2.2.2.1 (fun h2 q2 hC2 => kk h2 q2 (hR.nx q2 hC2))
def QF (m : Nat) (T : TKN) (h : Hp) (K : Option Value → Hp → Prop) : Prop := ∀ h2 s', Fr (PWm m) h h2 → MSh m h2 → MP m s' h2 → SOk s' → gI h2 m 24 = nI (sT0 T) → K (some (.int 0)) h2
theorem QF.fr (kk : QF m T h K) (w : Fr (PWm m) h h1) : QF m T h1 K := fun h2 s' w2 a1 a2 a3 a4 => kk h2 s' (w.tr w2) a1 a2 a3 a4
/-- wrong -/
theorem c164 (hR : RM c m p T s h) (kk : QF m T h K) : AM 164 [.ref m] h K := by
  obtain ⟨r1, r2, r3, r4, r5, r6, r7, r8, r9⟩ := id hR
  have w : Fr (fun x j => x = m ∧ j = 24) h (pI h m 24 (nI (sT0 T))) := Fr.rf.pI ⟨rfl, rfl⟩
  simp only [v164_0, v164_1, v164_2, v164_5, v164_8, v164_9, e164, r3.k0, r4.2.2.1, bo_0, true_and]
  have wp := w.mo (G := PWm m) (fun x j z => by unfold PWm; omega)
  exact kk _ s wp (PWm.sh r3 wp) (r8.fr r9 w (fun a j z => ⟨fun v => by omega, fun v => by omega, fun v => by omega⟩)) r9 (gI_at _ _ _ _)
theorem rdB_R {lo hi : Int32} (ok : TOk p T) (hh : hi ≤ 99) (g : kT T = 2) : inI (nI (vR T)) lo hi = rdB T lo hi := by
  unfold rdB
  by_cases g2 : 2 < eT T - sT0 T
  · have e : vR T = 100000 := if_pos ⟨g, g2⟩
    rw [e, decide_eq_false (show ¬ eT T - sT0 T ≤ 2 by omega), Bool.and_false, Bool.false_and]
    refine Bool.eq_false_iff.mpr (fun z => ?_)
    have := (inI_t.mp z).2
    exact absurd (Int32.le_trans this hh) (by decide)
  · have e : vR T = vT T := if_neg (fun z => g2 z.2)
    rw [e, decide_eq_true g, decide_eq_true (show eT T - sT0 T ≤ 2 by omega), Bool.true_and, Bool.true_and]
theorem vR_v {lo hi : Int32} (h : rdB T lo hi = true) : vR T = vT T := by
  unfold rdB at h
  rw [Bool.and_eq_true, Bool.and_eq_true, decide_eq_true_eq, decide_eq_true_eq] at h
  exact if_neg (fun z => by have := h.1.2; omega)
/-- number -/
theorem c166 (hR : RM c m p T s h) {k : Nat} (hk : k < 4) {lo hi : Int32} (hh : hi ≤ 99) (kf : rdB T lo hi = false → QF m T h K) (kt : rdB T lo hi = true → ∀ h2, Fr (NM m k) h h2 → RM c m p (nxT p T) s h2 → gI h2 (m + 52) k = nI (vT T) → K (some (.int 1)) h2) : AM 166 [.ref m, .int (nI k), .int lo, .int hi] h K := by
  obtain ⟨r1, r2, r3, r4, r5, r6, r7, r8, r9⟩ := id hR
  have e1 : (nI (kT T) = 2) = (kT T = 2) := neqN (c := 2) (by have := r5.1; omega) (by decide)
  have c1 : (nI k).toNatClampNeg = k := nIc (by omega)
  have i1 : inb (nI k) 4 = True := nIb hk (by omega)
  have bad : rdB T lo hi = false → V 166 23 [.ref m, .int (nI k), .int lo, .int hi] [] h K := fun g => by
    simp only [v166_23, v166_24, r3.k0, true_and]
    refine c164 hR (fun h2 s' w2 a1 a2 a3 a4 => ?_)
    simp only [pu_s, v166_27, bo_0, true_and]
    exact kf g h2 s' w2 a1 a2 a3 a4
  by_cases g1 : kT T = 2
  · have g1' : (kT T = 2) = True := eq_true g1
    have ej : inJ (nI (vR T)).toInt64 lo.toInt64 hi.toInt64 = rdB T lo hi := (inJ_I _ _ _).trans (rdB_R r5 hh g1)
    cases g : rdB T lo hi with
    | false =>
      rw [g] at ej
      simp only [e166, v166_0, v166_1, v166_4, v166_5, v166_8, v166_9, v166_12, v166_13, v166_14, v166_15, v166_16, v166_17, v166_20, r3.k0, r4.2.1, r4.2.2.2.2, e1, g1', c135, ej, pu_s, z2_f, not_true_eq_false, true_and, reduceIte]
      exact bad g
    | true =>
      rw [g] at ej
      have ev : gI h m 23 = nI (vT T) := by rw [r4.2.2.2.2, vR_v g]
      have ej' := ej
      rw [vR_v g] at ej'
      simp only [e166, v166_0, v166_1, v166_4, v166_5, v166_8, v166_9, v166_12, v166_13, v166_14, v166_15, v166_16, v166_17, v166_20, v166_28, v166_29, v166_32, v166_33, v166_34, v166_37, v166_38, v166_39, r3.k0, r3.f25, r3.k52, r3.n52, r4.2.1, ev, e1, g1', c1, i1, c135, ej', pu_s, z2_t, i10, vrf_s, gI_pJ, gI_pR, gJ_pI, gJ_pR, gR_pI, gR_pJ, gK_pI, gK_pJ, gK_pR, gN_pI, gN_pJ, gN_pR, gX_pI, gX_pJ, gX_pR, gS_pI, gS_pJ, gS_pR, gK_cpI, gN_cpI, gK_cpJ, gN_cpJ, gR_cpI, gR_cpJ, gJ_cpI, gI_cpJ, not_true_eq_false, not_false_eq_true, true_and, true_or, and_self, reduceIte]
      refine rmx hR.nm (fun h2 q2 hR2 => ?_)
      simp only [pu_n, v166_42, v166_43, bo_1, true_and]
      exact kt g h2 ((Fr.rf.pI (Or.inr ⟨rfl, rfl⟩)).tr (q2.mo (fun x j z => by unfold MW at z; unfold NM; omega))) hR2 ((q2.i (fun z => by unfold MW at z; omega)).trans (gI_at _ _ _ _))
  · simp only [e166, v166_0, v166_1, v166_4, v166_5, r3.k0, r4.2.1, e1, g1, not_false_eq_true, true_and, reduceIte]
    refine bad ?_
    unfold rdB
    rw [decide_eq_false g1, Bool.false_and, Bool.false_and]
/-- tells -/
theorem c167 (hR : RM c m p T s h) {lo hi : Int32} (hh : hi ≤ 99) (kf : rdB (nxT p T) lo hi = false → QF m (nxT p T) h K) (kt : rdB (nxT p T) lo hi = true → ∀ h2, Fr (NM m 0) h h2 → RM c m p (nxT p (nxT p T)) s h2 → gI h2 (m + 52) 0 = nI (vT (nxT p T)) → K (some (.int 1)) h2) : AM 167 [.ref m, .int lo, .int hi] h K := by
  have k0 := hR.2.2.1.k0
  simp only [e167, v167_0, v167_1, k0, true_and]
  refine rmx hR (fun h1 q1 hR1 => ?_)
  have k0 := hR1.2.2.1.k0
  have w1 := q1.mo (G := PWm m) (fun x j z => MW.p z)
  simp only [pu_n, v167_4, v167_5, v167_6, v167_7, v167_8, k0, true_and]
  refine c166 (k := 0) hR1 (by decide) hh (fun g h2 s' w2 a1 a2 a3 a4 => ?_) (fun g h2 q2 hR2 e2 => ?_)
  · simp only [pu_s, v167_11, bo_0, true_and]
    exact kf g h2 s' (w1.tr w2) a1 a2 a3 a4
  · simp only [pu_s, v167_11, bo_1, true_and]
    exact kt g h2 ((q1.mo (fun x j z => by unfold MW at z; unfold NM; omega)).tr q2) hR2 e2
/-- the contract of a statement that is read -/
def GM (c m : Nat) (p : TPE) (r : Bool × SG × TKN) (h : Hp) (K : Option Value → Hp → Prop) : Prop := (r.1 = true → ∀ h2, Fr (PWm m) h h2 → RM c m p r.2.2 r.2.1 h2 → K (some (.int 1)) h2) ∧ (r.1 = false → QF m r.2.2 h K)
theorem h99 {m : Nat} (h : m ≤ 99) : nI m ≤ 99 := nI_le (b := 99) h (by decide)
theorem hn1 {n : Nat} (h : n ≤ 8) : nI n - 1 ≤ 99 := by
  by_cases e : n = 0
  · subst e; decide
  · rw [nS1 (by omega)]
    exact h99 (by omega)
theorem c169 (hR : RM c m p T s h) {col most : Nat} (hk : mkC col most) (hc : col < 7) (h9 : most ≤ 99) (kk : GM c m p (ceT p s T col (nI most)) h K) : AM 169 [.ref m, .int (nI col), .int (nI most)] h K := by
  obtain ⟨r1, r2, r3, r4, r5, r6, r7, r8, r9⟩ := id hR
  have hn8 := r9.1
  simp only [ceT, rd1] at kk
  simp only [e169, v169_0, v169_1, v169_2, v169_3, v169_6, v169_7, v169_8, r3.k0, r8.1, true_and]
  refine c167 hR (hn1 hn8) (fun g h2 s' w2 a1 a2 a3 a4 => ?_) (fun g h2 q2 hR2 y0 => ?_)
  · rw [g, if_neg Bool.false_ne_true] at kk
    simp only [pu_s, v169_11, v169_24, v169_25, bo_0, true_and, reduceIte]
    exact kk.2 rfl h2 s' w2 a1 a2 a3 a4
  · rw [g, if_pos rfl] at kk
    have w2 := q2.mo (G := PWm m) (fun x j z => NM.p z)
    have hv := rdB_n g (nx_ok r5).1.2.2.2.1 (by omega)
    have k0 := hR2.2.2.1.k0
    simp only [pu_s, v169_11, v169_14, v169_15, v169_16, v169_17, v169_18, i10, k0, true_and, reduceIte]
    refine c166 (k := 1) hR2 (by decide) (h99 h9) (fun g h3 s' w3 a1 a2 a3 a4 => ?_) (fun g h3 q3 hR3 y1 => ?_)
    · rw [g, if_neg Bool.false_ne_true] at kk
      simp only [pu_s, v169_21, v169_24, v169_25, bo_0, not_true_eq_false, true_and, reduceIte]
      exact kk.2 rfl h3 s' (w2.tr w3) a1 a2 a3 a4
    · rw [g, if_pos rfl] at kk
      have w3 := w2.tr (q3.mo (G := PWm m) (fun x j z => NM.p z))
      have hv2 := (rdB_s (l := 0) (m := most) g hR2.2.2.2.2.1.2.2.2.1 rfl rfl (by decide) (by omega)).2
      obtain ⟨r1, r2, r3, r4, r5, r6, r7, r8, r9⟩ := id hR3
      have z0 : gI h3 (m + 52) 0 = nI (vT (nxT p T)) := (q3.i (fun z => by unfold NM at z; omega)).trans y0
      have c2 : (nI (vT (nxT p T))).toNatClampNeg = vT (nxT p T) := nIc (by omega)
      have i2 : inb (nI (vT (nxT p T))) 8 = True := nIb (by omega) (by omega)
      have c1 : (nI col).toNatClampNeg = col := nIc (by omega)
      have i1 : inb (nI col) 7 = True := nIb hc (by omega)
      obtain ⟨t1, t2, t3⟩ := r3.th (show vT (nxT p T) < 8 by omega)
      simp only [pu_s, v169_21, v169_26, v169_27, v169_30, v169_31, v169_34, v169_35, v169_36, v169_37, v169_38, v169_39, v169_42, v169_43, v169_44, v169_45, v169_46, i10, r3.k0, r3.f10, r3.k17, r3.n17, r3.f25, r3.k52, r3.n52, ib7_0, ib7_1, ib7_2, ib7_3, ib7_4, ib7_5, ib7_6, ib3_0, ib3_1, ib3_2, ib4_0, ib4_1, ib4_2, ib4_3, tc0, tc1, tc2, tc3, tc4, tc5, tc6, z0, y1, c1, i1, c2, i2, t1, t2, t3, vrf_s, bo_1, not_false_eq_true, true_and, true_or, or_true, and_self, reduceIte]
      have q4 : Fr (fun x _ => x = m + (18 + vT (nxT p T))) h3 (pI h3 (m + (18 + vT (nxT p T))) col (nI (vT (nxT p (nxT p T))))) := Fr.rf.pI rfl
      exact kk.1 rfl _ (w3.tr (q4.mo (fun x j z => by unfold PWm; omega))) (hR3.tk q4 (fun x j z => by omega) (MP.set r8 r9 hv) (r9.set hk hv2))
theorem c170 (hR : RM c m p T s h) {w l u : Nat} (hw : w < 4) (hl : (if nI w = 0 then (1 : Int32) else 0) = nI l) (hu : (if nI w = 0 then (30 : Int32) else if nI w = 1 then 14 else if nI w = 2 then 1 else 9) = nI u) (hl2 : loA w = l) (hu2 : hiA w = u) (h9 : u ≤ 99) (hl9 : l ≤ 99) (kk : GM c m p (asT p s T w (nI l) (nI u)) h K) : AM 170 [.ref m, .int (nI w)] h K := by
  obtain ⟨r1, r2, r3, r4, r5, r6, r7, r8, r9⟩ := id hR
  have c1 : (nI w).toNatClampNeg = w := nIc (by omega)
  have i1 : inb (nI w) 4 = True := nIb hw (by omega)
  simp only [asT, rd1] at kk
  simp only [e170, v170_0, v170_1, v170_2, c157, hl, pu_s, v170_5, v170_6, c156, hu, v170_9, r3.k0, true_and]
  refine c167 hR (h99 h9) (fun g h2 s' w2 a1 a2 a3 a4 => ?_) (fun g h2 q2 hR2 y0 => ?_)
  · rw [g, if_neg Bool.false_ne_true] at kk
    have ea : gI h2 (m + 51) w = nI (sA s' w) := a2.2.2.2.2 w hw
    simp only [pu_s, v170_12, v170_13, v170_14, v170_17, v170_18, v170_19, v170_31, v170_32, v170_35, v170_36, v170_37, v170_38, v170_39, a1.k0, a1.f13, a1.k51, a1.n51, c1, i1, ea, vrf_s, bo_0, true_and, true_or, or_true, and_self, reduceIte]
    have q4 : Fr (fun x j => x = m + 51) h2 (pI h2 (m + 51) w (nI (sA s' w))) := Fr.rf.pI rfl
    have wp := q4.mo (G := PWm m) (fun x j z => by unfold PWm; omega)
    obtain ⟨b1, b2⟩ := SOk.askB a3 hw
    exact kk.2 rfl _ (sgA s' w (sA s' w)) (w2.tr wp) (PWm.sh a1 wp) (MP.ask a2 a3) (a3.ask hw b1 b2) (by rw [gI_ne (by omega)]; exact a4)
  · rw [g, if_pos rfl] at kk
    have w2 := q2.mo (G := PWm m) (fun x j z => NM.p z)
    have hok := okA r9 hw hl2 hu2 (by omega) (by omega) (nxT p T) (nx_ok r5).1.2.2.2.1 g
    obtain ⟨r1, r2, r3, r4, r5, r6, r7, r8, r9⟩ := id hR2
    simp only [pu_s, v170_12, v170_13, v170_14, v170_17, v170_18, v170_19, v170_22, v170_23, v170_26, v170_27, v170_28, v170_37, v170_38, v170_39, r3.k0, r3.f13, r3.k51, r3.n51, r3.f25, r3.k52, r3.n52, ib7_0, ib7_1, ib7_2, ib7_3, ib7_4, ib7_5, ib7_6, ib3_0, ib3_1, ib3_2, ib4_0, ib4_1, ib4_2, ib4_3, tc0, tc1, tc2, tc3, tc4, tc5, tc6, c1, i1, y0, i10, vrf_s, bo_1, true_and, true_or, or_true, and_self, reduceIte]
    have q4 : Fr (fun x j => x = m + 51) h2 (pI h2 (m + 51) w (nI (vT (nxT p T)))) := Fr.rf.pI rfl
    exact kk.1 rfl _ (w2.tr (q4.mo (fun x j z => by unfold PWm; omega))) (hR2.tk q4 (fun x j z => by omega) (MP.ask r8 r9) hok)
end
