/-! A SALE, in numbers; the class's sale -/
def ROk (p : TPE) (e : Nat) (r : Bool × SG × TKN) : Prop := SOk r.2.1 ∧ TOk p r.2.2 ∧ (r.1 = true → e ≤ sT0 r.2.2 ∧ (kT r.2.2 = 0 ↔ p.1 ≤ sT0 r.2.2))
theorem nx_ok {p : TPE} {T : TKN} (hT : TOk p T) : TOk p (nxT p T) ∧ eT T ≤ sT0 (nxT p T) ∧ (kT (nxT p T) = 0 ↔ p.1 ≤ sT0 (nxT p T)) := tok_ok hT.2.2.1
theorem rd1_ok {p : TPE} {e : Nat} {s : SG} {T : TKN} {lo hi : Int32} {k : TKN → Bool × SG × TKN} (hO : SOk s) (hT : TOk p T) (he : e ≤ eT T) (hk : ∀ T1, TOk p T1 → e ≤ eT T1 → rdB T1 lo hi = true → ROk p e (k T1)) : ROk p e (rd1 s p T lo hi k) := by
  obtain ⟨h1, h2, h3⟩ := nx_ok hT
  unfold rd1
  cases g : rdB (nxT p T) lo hi with
  | false => exact ⟨hO, h1, fun z => absurd z Bool.false_ne_true⟩
  | true => exact hk _ h1 (by have := h1.2.1; omega) g
theorem dn_ok {p : TPE} {e : Nat} {s : SG} {T : TKN} (hO : SOk s) (hT : TOk p T) (he : e ≤ eT T) : ROk p e (true, s, nxT p T) := by
  obtain ⟨h1, h2, h3⟩ := nx_ok hT
  exact ⟨hO, h1, fun _ => ⟨by show e ≤ sT0 (nxT p T); omega, h3⟩⟩
theorem thT_ok {p : TPE} {s : SG} {T : TKN} (hO : SOk s) (hT : TOk p T) : ROk p (eT T) (thT p s T) := by
  unfold thT
  by_cases g8 : sN s < 8
  · rw [if_pos g8]
    refine rd1_ok hO hT (Nat.le_refl _) (fun T1 k1 l1 g1 => ?_)
    have b1 := rdB_s (l := 0) (m := 5) g1 k1.2.2.2.1 rfl rfl (by decide) (by decide)
    refine rd1_ok hO k1 l1 (fun T2 k2 l2 g2 => ?_)
    have b2 := rdB_s (l := 1) (m := 99) g2 k2.2.2.2.1 rfl rfl (by decide) (by decide)
    refine rd1_ok hO k2 l2 (fun T3 k3 l3 g3 => ?_)
    have b3 := rdB_s (l := 1) (m := 9) g3 k3.2.2.2.1 rfl rfl (by decide) (by decide)
    refine rd1_ok hO k3 l3 (fun T4 k4 l4 g4 => ?_)
    have b4 := rdB_s (l := 0) (m := 99) g4 k4.2.2.2.1 rfl rfl (by decide) (by decide)
    obtain ⟨n1, n2, n3⟩ := nx_ok k4
    have l5 : eT T ≤ eT (nxT p T4) := by have := n1.2.1; omega
    cases gw : isW p (nxT p T4) wWi with
    | true =>
      rw [if_pos rfl]
      refine rd1_ok hO n1 l5 (fun T6 k6 l6 g6 => ?_)
      have b6 := rdB_s (l := 0) (m := 9) g6 k6.2.2.2.1 rfl rfl (by decide) (by decide)
      exact dn_ok (hO.add g8 b1.2 b2 b3 b4.2 b6.2) k6 l6
    | false =>
      rw [if_neg Bool.false_ne_true]
      exact dn_ok (hO.add g8 b1.2 b2 b3 b4.2 (by decide)) k4 l4
  · rw [if_neg g8]
    exact ⟨hO, hT, fun z => absurd z Bool.false_ne_true⟩
theorem byT_ok {p : TPE} {s : SG} {T : TKN} (hO : SOk s) (hT : TOk p T) : ROk p (eT T) (byT p s T) := by
  unfold byT
  by_cases g8 : sM s < 24
  · rw [if_pos g8]
    refine rd1_ok hO hT (Nat.le_refl _) (fun T1 k1 l1 g1 => ?_)
    have b1 := rdB_s (l := 0) (m := 6) g1 k1.2.2.2.1 rfl rfl (by decide) (by decide)
    refine rd1_ok hO k1 l1 (fun T2 k2 l2 g2 => ?_)
    have b2 := rdB_s (l := 0) (m := 3) g2 k2.2.2.2.1 rfl rfl (by decide) (by decide)
    refine rd1_ok hO k2 l2 (fun T3 k3 l3 g3 => ?_)
    have b3 := rdB_s (l := 1) (m := 99) g3 k3.2.2.2.1 rfl rfl (by decide) (by decide)
    exact dn_ok (hO.buy g8 b1.2 b2.2 b3) k3 l3
  · rw [if_neg g8]
    exact ⟨hO, hT, fun z => absurd z Bool.false_ne_true⟩
theorem ceT_ok {p : TPE} {s : SG} {T : TKN} {col most : Nat} (hk : mkC col most) (h99 : most ≤ 99) (hO : SOk s) (hT : TOk p T) : ROk p (eT T) (ceT p s T col (nI most)) := by
  unfold ceT
  refine rd1_ok hO hT (Nat.le_refl _) (fun T1 k1 l1 g1 => ?_)
  refine rd1_ok hO k1 l1 (fun T2 k2 l2 g2 => ?_)
  have b2 := rdB_s (l := 0) (m := most) g2 k2.2.2.2.1 rfl rfl (by decide) (by omega)
  exact dn_ok (hO.set hk b2.2) k2 l2
theorem asT_ok {p : TPE} {s : SG} {T : TKN} {w l m : Nat} (hw : w < 4) (hl : loA w = l) (hm : hiA w = m) (hl1 : l ≤ 1000) (hm1 : m ≤ 1000) (hO : SOk s) (hT : TOk p T) : ROk p (eT T) (asT p s T w (nI l) (nI m)) := by
  unfold asT
  refine rd1_ok hO hT (Nat.le_refl _) (fun T1 k1 l1 g1 => ?_)
  exact dn_ok (okA hO hw hl hm hl1 hm1 T1 k1.2.2.2.1 g1) k1 l1
theorem stm_ok {p : TPE} {s : SG} {T : TKN} (hO : SOk s) (hT : TOk p T) : ROk p (eT T) (stm p s T) := by
  unfold stm
  split
  · exact thT_ok hO hT
  · split
    · exact byT_ok hO hT
    · split
      · exact ceT_ok (most := 99) (Or.inl ⟨rfl, rfl⟩) (by decide) hO hT
      · split
        · exact ceT_ok (most := 7) (Or.inr ⟨rfl, rfl⟩) (by decide) hO hT
        · split
          · exact asT_ok (l := 1) (m := 30) (by decide) rfl rfl (by decide) (by decide) hO hT
          · split
            · exact asT_ok (l := 0) (m := 14) (by decide) rfl rfl (by decide) (by decide) hO hT
            · split
              · exact asT_ok (l := 0) (m := 1) (by decide) rfl rfl (by decide) (by decide) hO hT
              · split
                · exact asT_ok (l := 0) (m := 9) (by decide) rfl rfl (by decide) (by decide) hO hT
                · exact ⟨hO, hT, fun z => absurd z Bool.false_ne_true⟩
theorem isW_k {p : TPE} {T : TKN} {w : List Nat} (h : kT T ≠ 1) : isW p T w = false := decide_eq_false (fun z => h z.1)
theorem stm_0 {p : TPE} {s : SG} {T : TKN} (h : kT T ≠ 1) : stm p s T = (false, s, T) := by
  unfold stm
  simp only [isW_k h, Bool.false_eq_true, reduceIte]
def sal (p : TPE) : Nat → SG → TKN → Nat → Bool × SG × Nat
  | 0, s, T, _ => (false, s, sT0 T)
  | d + 1, s, T, c => if (stm p s T).1 = true then
      (if kT (stm p s T).2.2 = 0 then (true, (stm p s T).2.1, c) else if kT (stm p s T).2.2 = 3 then sal p d (stm p s T).2.1 (nxT p (stm p s T).2.2) (c + 1) else (false, (stm p s T).2.1, sT0 (stm p s T).2.2))
    else (false, (stm p s T).2.1, sT0 (stm p s T).2.2)
theorem sal_ok {p : TPE} (hp : p.1 ≤ 250) : ∀ (d : Nat) (s : SG) (T : TKN) (c : Nat), SOk s → TOk p T → c + d ≤ 600 → SOk (sal p d s T c).2.1 ∧ (sal p d s T c).2.2 ≤ 600
  | 0, s, T, c, hO, hT, hc => ⟨hO, by show sT0 T ≤ 600; have := hT.2.1; have := hT.2.2.1; omega⟩
  | d + 1, s, T, c, hO, hT, hc => by
    obtain ⟨h1, h2, h3⟩ := stm_ok hO hT
    have hs : sT0 (stm p s T).2.2 ≤ 600 := by have := h2.2.1; have := h2.2.2.1; omega
    unfold sal
    split
    · split
      · exact ⟨h1, by show c ≤ 600; omega⟩
      · split
        · exact sal_ok hp d _ _ _ h1 (nx_ok h2).1 (by omega)
        · exact ⟨h1, hs⟩
    · exact ⟨h1, hs⟩
def oSal (A : XA) : XA × Int32 := if (sal (aP A) ((aP A).1 + 1) (aS A) (tok (aP A) 0) 1).1 = true then (wP (wS A (sal (aP A) ((aP A).1 + 1) (aS A) (tok (aP A) 0) 1).2.1) (0, (aP A).2), nI (sal (aP A) ((aP A).1 + 1) (aS A) (tok (aP A) 0) 1).2.2) else (rfu (wP A (0, (aP A).2)) 0, -20 - nI (sal (aP A) ((aP A).1 + 1) (aS A) (tok (aP A) 0) 1).2.2)
def raS (r : Bool × SG × Nat) : Int32 := if r.1 = true then nI r.2.2 else -20 - nI r.2.2
section
variable {b a : Nat} {p : TPE} {T : TKN} {s : SG} {ρ β : Nat → Nat} {h h1 : Hp} {K : Option Value → Hp → Prop}
theorem c32_l (kk : ∀ (r : Bool × SG × Nat) (h2 : Hp) (ρ2 β2 : Nat → Nat), r = sal p (p.1 + 1) s (tok p 0) 1 → Fr (SW b) h h2 → TA b p h2 → SQ (b + 74) ρ2 β2 h2 → SV (b + 74) ρ2 β2 r.2.1 h2 → K (some (.int (raS r))) h2) :
    ∀ (d c : Nat) (s' : SG) (T : TKN) (ρ β : Nat → Nat) (h1 : Hp), sal p d s' T c = sal p (p.1 + 1) s (tok p 0) 1 → p.1 + 1 ≤ sT0 T + d → c ≤ sT0 T + 1 → (kT T = 0 ↔ p.1 ≤ sT0 T) → Fr (SW b) h h1 → RD b p T s' ρ β h1 → V 32 11 [.ref (b + 117), .ref (b + 74), .int (nI c)] [] h1 K := by
  intro d
  induction d with
  | zero =>
    intro c s' T ρ β h1 he hd hc hk hf hR
    have := hR.2.2.1.2.1
    have := hR.2.2.1.2.2.1
    omega
  | succ d ih =>
    intro c s' T ρ β h1 he hd hc hk hf hR
    obtain ⟨cn, ⟨⟨t1, t2, t3, t4, t5, t6, t7, t8, t9⟩, u1, u2, u3, u4⟩, ok, hp, hb, hQ, hV, hO⟩ := id hR
    have hs1 := ok.2.1
    have hs2 := ok.2.2.1
    have ec : (nI p.1 < nI c) = (p.1 < c) := nltN (by omega) (by omega)
    have r : sal p (d + 1) s' T c = if (stm p s' T).1 = true then (if kT (stm p s' T).2.2 = 0 then (true, (stm p s' T).2.1, c) else if kT (stm p s' T).2.2 = 3 then sal p d (stm p s' T).2.1 (nxT p (stm p s' T).2.2) (c + 1) else (false, (stm p s' T).2.1, sT0 (stm p s' T).2.2)) else (false, (stm p s' T).2.1, sT0 (stm p s' T).2.2) := rfl
    rw [r] at he
    by_cases g : p.1 < c
    · have g' : (p.1 < c) = True := eq_true g
      have hz : kT T = 0 := hk.mpr (by omega)
      rw [stm_0 (by omega)] at he
      have he' : (false, s', sT0 T) = sal p (p.1 + 1) s (tok p 0) 1 := he
      simp only [v32_11, v32_12, v32_13, v32_16, v32_70, v32_72, v32_73, v32_76, v32_77, t1, t8, u2, ec, g', true_and, reduceIte]
      exact kk (false, s', sT0 T) h1 ρ β he' hf hR.2.1.1 hQ hV
    · have g' : (p.1 < c) = False := eq_false g
      simp only [v32_11, v32_12, v32_13, v32_16, v32_19, v32_20, v32_21, t1, t8, ec, g', true_and, reduceIte]
      refine c33 hR (fun h2 ρ2 β2 w2 hC2 hQ2 hV2 => ?_)
      obtain ⟨h1', h2', h3'⟩ := stm_ok hO ok
      have f2 := hf.tr w2
      obtain ⟨⟨t1, t2, t3, t4, t5, t6, t7, t8, t9⟩, u1, u2, u3, u4⟩ := id hC2
      cases gs : (stm p s' T).1 with
      | false =>
        rw [gs, if_neg Bool.false_ne_true] at he
        simp only [pu_s, v32_24, v32_27, v32_29, v32_30, v32_33, v32_34, z2_f, t1, u2, not_true_eq_false, true_and, reduceIte]
        exact kk (false, _, _) h2 ρ2 β2 he f2 hC2.1 hQ2 hV2
      | true =>
        rw [gs, if_pos rfl] at he
        obtain ⟨x1, x2⟩ := h3' gs
        have e0 : (nI (kT (stm p s' T).2.2) = 0) = (kT (stm p s' T).2.2 = 0) := neqN (c := 0) (by have := h2'.1; omega) (by decide)
        have e3 : (nI (kT (stm p s' T).2.2) = 3) = (kT (stm p s' T).2.2 = 3) := neqN (c := 3) (by have := h2'.1; omega) (by decide)
        by_cases g0 : kT (stm p s' T).2.2 = 0
        · rw [if_pos g0] at he
          have g0' : (kT (stm p s' T).2.2 = 0) = True := eq_true g0
          simp only [pu_s, v32_24, v32_35, v32_36, v32_39, v32_42, v32_43, z2_t, i10, t1, u1, e0, g0', not_true_eq_false, not_false_eq_true, true_and, reduceIte]
          exact kk (true, _, c) h2 ρ2 β2 he f2 hC2.1 hQ2 hV2
        · rw [if_neg g0] at he
          have g0' : (kT (stm p s' T).2.2 = 0) = False := eq_false g0
          by_cases g3 : kT (stm p s' T).2.2 = 3
          · rw [if_pos g3] at he
            have g3' : (kT (stm p s' T).2.2 = 3) = True := eq_true g3
            have hFr : ∀ x j, SW b x j → b ≤ x := fun x j z => by unfold SW NW at z; omega
            have hR2 : RD b p (stm p s' T).2.2 (stm p s' T).2.1 ρ2 β2 h2 := ⟨cn.fr w2 hFr, hC2, h2', hp, hb, hQ2, hV2, h1'⟩
            simp only [pu_s, v32_24, v32_35, v32_36, v32_39, v32_44, v32_45, v32_48, v32_49, v32_60, v32_61, z2_t, i10, t1, u1, e0, g0', e3, g3', not_true_eq_false, not_false_eq_true, true_and, reduceIte]
            refine rnx hR2 (fun h3 q3 hR3 => ?_)
            simp only [pu_n, v32_64, nI_1]
            rw [v32_67]
            obtain ⟨n1, n2, n3⟩ := nx_ok h2'
            have hlt : sT0 (stm p s' T).2.2 < eT (stm p s' T).2.2 := h2'.2.2.2.2 g0
            exact ih (c + 1) _ _ _ _ h3 he (by omega) (by omega) n3 (f2.tr (q3.mo (fun x j z => Or.inl z))) hR3
          · rw [if_neg g3] at he
            have g3' : (kT (stm p s' T).2.2 = 3) = False := eq_false g3
            simp only [pu_s, v32_24, v32_35, v32_36, v32_39, v32_44, v32_45, v32_48, v32_49, v32_52, v32_54, v32_55, v32_58, v32_59, z2_t, i10, t1, u1, u2, e0, g0', e3, g3', not_true_eq_false, not_false_eq_true, true_and, reduceIte]
            exact kk (false, _, _) h2 ρ2 β2 he f2 hC2.1 hQ2 hV2
theorem c32 (cn : CN b h) (hT : TA b p h) (hp : p.1 ≤ 250) (hb : ∀ j, j < p.1 → p.2 j ≤ 255) (hQ : SQ (b + 74) ρ β h) (hV : SV (b + 74) ρ β s h) (hO : SOk s) (kk : ∀ (r : Bool × SG × Nat) (h2 : Hp) (ρ2 β2 : Nat → Nat), r = sal p (p.1 + 1) s (tok p 0) 1 → Fr (SW b) h h2 → TA b p h2 → SQ (b + 74) ρ2 β2 h2 → SV (b + 74) ρ2 β2 r.2.1 h2 → K (some (.int (raS r))) h2) : AM 32 [.ref (b + 117), .ref (b + 74)] h K := by
  have t1 := hT.1
  have w : Fr (NW b) h (pI h (b + 117) 4 0) := Fr.rf.pI ⟨rfl, by omega, by omega⟩
  simp only [e32, v32_0, v32_1, v32_2, v32_5, v32_6, t1, gI_pJ, gI_pR, gJ_pI, gJ_pR, gR_pI, gR_pJ, gK_pI, gK_pJ, gK_pR, gN_pI, gN_pJ, gN_pR, gX_pI, gX_pJ, gX_pR, gS_pI, gS_pJ, gS_pR, gK_cpI, gN_cpI, gK_cpJ, gN_cpJ, gR_cpI, gR_cpJ, gJ_cpI, gI_cpJ, true_and]
  refine c40 (e := 0) (hT.nw hp w) hp hb (Nat.zero_le _) (gI_at _ _ _ _) (fun h2 q2 hC2 => ?_)
  have w2 := w.tr q2
  have hF : ∀ u j, NW b u j → u < b + 74 ∨ b + 74 + 36 ≤ u := fun u j z => by unfold NW at z; omega
  obtain ⟨o1, o2, o3⟩ := tok_ok (p := p) (e := 0) (Nat.zero_le _)
  simp only [pu_n, v32_9, v32_10]
  exact c32_l kk (p.1 + 1) 1 s (tok p 0) ρ β h2 rfl (by omega) (by omega) o3 (w2.mo (fun x j z => Or.inl z)) ⟨cn.fr w2 (fun a j z => by unfold NW at z; omega), hC2, o1, hp, hb, hQ.fr w2 hF, SV.fr hQ hV hO w2 hF, hO⟩
theorem k68 {A : XA} (hC : CL b A h) (hW : WF A) (kk : ∀ h2, Fr (CW b) h h2 → CL b (oSal A).1 h2 → K (some (.int (oSal A).2)) h2) : AM 68 [.ref b] h K := by
  have hC0 := hC
  obtain ⟨⟨cn, kb, f0, f1, f3, f4, f5, f6⟩, hST, hKP, hTR, hTA, ⟨s1, s2, s3⟩, hRF⟩ := id hC
  obtain ⟨ρ, β, hQ, hV, hO, q5, q6, q7⟩ := id hST
  obtain ⟨ρ', β', t1, t2, t3, t4, t5, t6, t7⟩ := id hTR
  have hp := hW.2.2.1
  have hb := hW.2.2.2.1
  have k3 := t5.1
  have k1 := hQ.1
  have hT4 := hTA.1
  simp only [e68, v68_0, v68_1, v68_4, v68_7, v68_8, v68_11, kb, f0, f1, f3, f4, f5, f6, vrf_s, true_and, true_or, or_true, and_self, not_false_eq_true, pu_s, pu_n, z2_e0, z2_n0, z2_t, z2_f, t1, t2, k1, k3]
  refine c20 (Or.inl (by omega)) t5 hQ hV hO (fun h2 q2 hV2 x5 x6 x7 => ?_)
  have qb : ∀ x j, BW (b + 74) x j → b + 74 ≤ x ∧ x < b + 110 := fun x j z => by unfold BW at z; omega
  have kb2 : gK h2 b = 6 := q2.1.k.trans kb
  have g3 : gR h2 b 3 = some (b + 73) := (congrFun (congrFun q2.2 b) 3).trans f3
  have g4 : gR h2 b 4 = some (b + 117) := (congrFun (congrFun q2.2 b) 4).trans f4
  have t1' : gK h2 (b + 73) = 5 := q2.1.k.trans t1
  have t2' : gR h2 (b + 73) 0 = some (b + 74) := (congrFun (congrFun q2.2 _) _).trans t2
  have hT2 : TA b (aP A) h2 := hTA.fr hp q2.1 (fun x j z => by have := qb x j z; omega)
  have hT4' := hT2.1
  simp only [pu_n, v68_14, v68_15, v68_18, v68_19, v68_22, v68_25, kb2, g3, g4, t1', t2', hT4', vrf_s, true_and]
  refine c32 (cn.fr q2.1 (fun x j z => by have := qb x j z; omega)) hT2 hp hb (t5.fi q2) hV2 hO (fun r h3 ρ3 β3 hr q3 hT3 hQ3 hV3 => ?_)
  have qs : ∀ x j, SW b x j → b + 74 ≤ x ∧ x < b + 120 := fun x j z => by unfold SW NW at z; omega
  obtain ⟨T0, -, -⟩ := tok_ok (p := aP A) (e := 0) (Nat.zero_le _)
  have so := sal_ok hp ((aP A).1 + 1) (aS A) (tok (aP A) 0) 1 hO T0 (by omega)
  rw [← hr] at so
  have kb3 : gK h3 b = 6 := q3.k.trans kb2
  have g03 : gR h3 b 0 = some (b + 1) := (q3.r (fun z => by have := qs _ _ z; omega)).trans ((congrFun (congrFun q2.2 b) 0).trans f0)
  have g33 : gR h3 b 3 = some (b + 73) := (q3.r (fun z => by have := qs _ _ z; omega)).trans g3
  have g43 : gR h3 b 4 = some (b + 117) := (q3.r (fun z => by have := qs _ _ z; omega)).trans g4
  have t13 : gK h3 (b + 73) = 5 := q3.k.trans t1'
  have t23 : gR h3 (b + 73) 0 = some (b + 74) := (q3.r (fun z => by have := qs _ _ z; omega)).trans t2'
  have hT43 := hT3.1
  simp only [pu_s, v68_28, v68_29, v68_30, v68_33, v68_34, v68_37, v68_38, v68_40, kb3, g43, hT43, vrf_s, true_and]
  have q4 : Fr (fun x j => x = b + 117 ∧ j = 1) h3 (pI h3 (b + 117) 1 0) := Fr.rf.pI ⟨rfl, rfl⟩
  -- all that has changed so far
  have q24 : Fr (fun x _ => b + 74 ≤ x ∧ x < b + 120 ∧ ¬ (b + 110 ≤ x ∧ x < b + 117)) h (pI h3 (b + 117) 1 0) := ((q2.1.mo (fun x j z => by have := qb x j z; omega)).tr (q3.mo (fun x j z => by unfold SW NW at z; omega))).tr (q4.mo (fun x j z => by omega))
  obtain ⟨a1, a2, a3, a4, a5, a6, a7, a8, a9⟩ := id hT3
  have hT5 : TA b (0, (aP A).2) (pI h3 (b + 117) 1 0) := ⟨a1, a2, a3, a4, a5, a6, a7, gI_at _ _ _ _, fun j hj => absurd hj (Nat.not_lt_zero j)⟩
  have hF74 : ∀ u j : Nat, (u = b + 117 ∧ j = 1) → u < b + 74 ∨ b + 74 + 36 ≤ u := fun u j z => by omega
  have hQ5 : SQ (b + 74) ρ3 β3 (pI h3 (b + 117) 1 0) := hQ3.fr q4 hF74
  have hV5 : SV (b + 74) ρ3 β3 r.2.1 (pI h3 (b + 117) 1 0) := SV.fr hQ3 hV3 so.1 q4 hF74
  have hTR5 : TR b (pI h3 (b + 117) 1 0) := ⟨ρ3, β3, t13, t23, (q24.r (fun z => by omega)).trans t3, t4.fr q24 (fun j _ _ z => by omega), hQ5, t6, t7⟩
  have hC5 : CL b (wP A (0, (aP A).2)) (pI h3 (b + 117) 1 0) := by
    obtain ⟨c0, c1, c2, c3, c4, c5, c6⟩ := hC0
    exact ⟨c0.fr q24 (fun a j z => by omega), c1.fr q24 (fun a j z => by omega), c2.fr q24 (fun a j z => by omega), hTR5, hT5, c5.fr q24 (fun a j z => by omega), c6.fr q24 (fun a j z => by omega)⟩
  have hW5 : WF (wP A (0, (aP A).2)) := ⟨hW.1, hW.2.1, Nat.zero_le _, fun j hj => absurd hj (Nat.not_lt_zero j), hW.2.2.2.2⟩
  have q24c : Fr (CW b) h (pI h3 (b + 117) 1 0) := q24.mo (fun x j z => by unfold CW; omega)
  unfold oSal at kk
  rw [← hr] at kk
  unfold raS
  cases gr : r.1 with
  | true =>
    rw [gr, if_pos rfl] at kk
    have e20 : ((-20 : Int32) < nI r.2.2) = True := eq_true (Int32.lt_of_lt_of_le (b := 0) (by decide) (nI_pos' (by omega)))
    rw [if_pos rfl]
    obtain ⟨⟨cn5, kb5, f05, f15, f35, f45, f55, f65⟩, ⟨ρ5, β5, hQ1, hV1, hO1, y5, y6, y7⟩, -, ⟨ρ6, β6, z1, z2', -, -, z5, -⟩, -⟩ := id hC5
    have k5 := hQ1.1
    have k6 := z5.1
    simp only [v68_52, v68_53, v68_56, v68_57, v68_60, v68_63, e20, kb5, f05, f35, z1, z2', k5, k6, vrf_s, true_and, reduceIte]
    refine c20 (Or.inr (by omega)) hQ1 hQ5 hV5 so.1 (fun h6 q6' hV6 x5' x6' x7' => ?_)
    simp only [pu_n, v68_66, v68_67]
    have qa : ∀ x j, BW (b + 1) x j → b + 1 ≤ x ∧ x < b + 37 := fun x j z => by unfold BW at z; omega
    have v5 : ∀ j, 5 ≤ j → j ≤ 7 → gI (pI h3 (b + 117) 1 0) (b + 74) j = gI h2 (b + 74) j := fun j h1 h2' => (q4.i (fun z => by omega)).trans (q3.i (fun z => by unfold SW NW at z; omega))
    exact kk h6 (q24c.tr (q6'.1.mo (fun x j z => by have := qa x j z; unfold CW; omega))) (CL.us (s := r.2.1) (q := aQ A) hC5 hW5 q6'.1 (fun x j z => qa x j z) ⟨ρ5, β5, hQ1.fi q6', hV6, so.1, x5'.trans ((v5 5 (by decide) (by decide)).trans (x5.trans q5)), x6'.trans ((v5 6 (by decide) (by decide)).trans (x6.trans q6)), x7'.trans ((v5 7 (by decide) (by decide)).trans (x7.trans q7))⟩)
  | false =>
    rw [gr, if_neg Bool.false_ne_true] at kk
    rw [if_neg Bool.false_ne_true]
    have e20 : ((-20 : Int32) < -20 - nI r.2.2) = False := eq_false (fun z => by
      rw [Int32.lt_iff_toInt_lt, Int32.toInt_sub, nI_toInt (by omega), show (-20 : Int32).toInt = -20 from rfl] at z
      simp only [Int.bmod] at z
      split at z <;> omega)
    have kb5 : gK (pI h3 (b + 117) 1 0) b = 6 := kb3
    simp only [v68_43, v68_44, v68_46, e20, kb5, true_and, reduceIte]
    exact k108 (w := 0) hC5 hW5 (by decide) (by decide) (fun h6 q6' hC6 => by simp only [pu_s, v68_49, v68_50, v68_51]; exact kk h6 (q24c.tr q6') hC6)
end
