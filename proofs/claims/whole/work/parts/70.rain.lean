/-! RAIN and NEIGHBOUR, on both sides -/
def pRn (hr : Nat) : PR := (hr, none, none, none)
def pCp (t p : Nat) : PR := (7, some (t, p), none, none)
theorem pRn_ok (s : SG) {hr : Nat} (h : hr ≤ 6) : POk s (pRn hr) := ⟨by show hr ≤ 7; omega, fun q h => (by cases h), fun q h => (by cases h), fun q h => (by cases h)⟩
theorem pCp_ok {s : SG} (hO : SOk s) {t p : Nat} (ht : t < sN s) (hp : p ≤ 99) : POk s (pCp t p) := ⟨Nat.le_refl _, fun q h => (by cases h; exact ⟨Nat.lt_of_lt_of_le ht hO.1, hp⟩), fun q h => (by cases h), fun q h => (by cases h)⟩
theorem pCp_cl (t p : Nat) : PCl (pCp t p) := ⟨rfl, rfl, fun q h => by cases h⟩
theorem rdN_up (f : Nat → Nat) (hr : Nat) : ∀ n i : Nat, rdN f hr n ≤ i → i < n → hr ≤ f i
  | 0, i, _, h => absurd h (Nat.not_lt_zero i)
  | p + 1, i, h1, h2 => by
    unfold rdN at h1
    split at h1
    · rename_i q
      by_cases e : i = p
      · subst e; exact q
      · exact rdN_up f hr p i h1 (by omega)
    · omega
theorem rdN_lo (f : Nat → Nat) (hr : Nat) : ∀ n : Nat, rdN f hr n = 0 ∨ f (rdN f hr n - 1) < hr
  | 0 => Or.inl rfl
  | p + 1 => by
    have ih := rdN_lo f hr p
    unfold rdN
    split
    · exact ih
    · exact Or.inr (by rw [Nat.add_sub_cancel]; omega)
def rnN (s : SG) (hr : Nat) : Nat := rdN (fun b => sB s b 0) hr (sM s)
theorem rain_lo {s : SG} (hO : SOk s) {hr b : Nat} (hb : b < rnN s hr) : sB s b 0 < hr := by
  have l1 := rdN_le (fun b => sB s b 0) hr (sM s)
  have l2 := rdN_lo (fun b => sB s b 0) hr (sM s)
  change rnN s hr ≤ sM s at l1
  change rnN s hr = 0 ∨ sB s (rnN s hr - 1) 0 < hr at l2
  rcases l2 with z | z
  · omega
  · exact Nat.lt_of_le_of_lt (hO.2.2.2.2.1 b (rnN s hr - 1) (by omega) (by omega)) z
theorem rmN_ct {s : SG} {k : Nat} {sold : Nat → Bool} {hr : Nat} : ∀ n : Nat, rmN (ctS s k) sold hr n = rmN s sold hr n
  | 0 => rfl
  | n + 1 => by
    unfold rmN
    rw [rmN_ct n]
    rfl
theorem onN_ct {s : SG} {k : Nat} {sold : Nat → Bool} {hr : Nat} : onN (ctS s k) sold hr = onN s sold hr := by
  funext n
  unfold onN
  rw [rmN_ct]
  rfl
theorem drN_ct {s : SG} {k : Nat} {sold : Nat → Bool} {hr : Nat} : ∀ n : Nat, drN (ctS s k) sold hr n = drN s sold hr n
  | 0 => rfl
  | n + 1 => by
    unfold drN
    rw [drN_ct n, onN_ct]
    rfl
theorem rain_mo {s : SG} (hO : SOk s) {hr : Nat} : ∀ b : Nat, b ≤ rnN s hr → mo (ctS s (rnN s hr)) p0 b = mo s (pRn hr) b
  | 0, _ => rfl
  | b + 1, hb => by
    have l1 := rdN_le (fun b => sB s b 0) hr (sM s)
    change rnN s hr ≤ sM s at l1
    show moS (ctS s (rnN s hr)) p0 (mo (ctS s (rnN s hr)) p0 b) b = moS s (pRn hr) (mo s (pRn hr) b) b
    rw [rain_mo hO b (by omega)]
    have h1 := rain_lo hO (hr := hr) (show b < rnN s hr by omega)
    have h2 := (hO.2.2.2.1 b (by omega)).1
    have hco : coN (ctS s (rnN s hr)) p0 (mo s (pRn hr) b) b = coN s (pRn hr) (mo s (pRn hr) b) b := by
      unfold coN
      show (decide (sB s b 0 < 7) && _) = (decide (sB s b 0 < hr) && _)
      rw [decide_eq_true (show sB s b 0 < 7 by omega), decide_eq_true h1]
      rfl
    have htk : tkN (ctS s (rnN s hr)) p0 (mo s (pRn hr) b) b = tkN s (pRn hr) (mo s (pRn hr) b) b := by
      show Option.map _ (chN (onN (ctS s (rnN s hr)) (mS (mo s (pRn hr) b)) (sB s b 0)) (fun t => prN s t (sB s b 0)) (fun t => pyN s none b t (drN (ctS s (rnN s hr)) (mS (mo s (pRn hr) b)) (sB s b 0) (sN s))) (sB s b 2) (sN s)) = Option.map _ (chN (onN s (mS (mo s (pRn hr) b)) (sB s b 0)) (fun t => prN s t (sB s b 0)) (fun t => pyN s none b t (drN s (mS (mo s (pRn hr) b)) (sB s b 0) (sN s))) (sB s b 2) (sN s))
      rw [onN_ct, drN_ct]
    unfold moS
    rw [hco, htk]
    rfl
theorem rain_st {s : SG} {hr : Nat} : ∀ j : Nat, rnN s hr + j ≤ sM s → mS (mo s (pRn hr) (rnN s hr + j)) = mS (mo s (pRn hr) (rnN s hr)) ∧ mK (mo s (pRn hr) (rnN s hr + j)) = mK (mo s (pRn hr) (rnN s hr))
  | 0, _ => ⟨rfl, rfl⟩
  | j + 1, hj => by
    have ih := rain_st (s := s) (hr := hr) j (by omega)
    have h1 : hr ≤ sB s (rnN s hr + j) 0 := rdN_up (fun b => sB s b 0) hr (sM s) (rnN s hr + j) (Nat.le_add_right _ _) (by omega)
    have hco : coN s (pRn hr) (mo s (pRn hr) (rnN s hr + j)) (rnN s hr + j) = false := by
      unfold coN
      show (decide (sB s (rnN s hr + j) 0 < hr) && _) = false
      rw [decide_eq_false (by omega), Bool.false_and]
    show mS (moS s (pRn hr) (mo s (pRn hr) (rnN s hr + j)) (rnN s hr + j)) = _ ∧ mK (moS s (pRn hr) (mo s (pRn hr) (rnN s hr + j)) (rnN s hr + j)) = _
    unfold moS
    rw [hco, if_neg (by decide)]
    exact ih
theorem rain_ga {s : SG} (hO : SOk s) {hr : Nat} : gaI (ctS s (rnN s hr)) p0 = gaI s (pRn hr) := by
  have l1 := rdN_le (fun b => sB s b 0) hr (sM s)
  change rnN s hr ≤ sM s at l1
  have h1 := rain_mo hO (hr := hr) (rnN s hr) (Nat.le_refl _)
  have h2 := rain_st (s := s) (hr := hr) (sM s - rnN s hr) (by omega)
  rw [show rnN s hr + (sM s - rnN s hr) = sM s by omega] at h2
  have hm : ∀ (f : Nat → Bool) (n : Nat), hmN (ctS s (rnN s hr)) f n = hmN s f n := fun f n => by
    induction n with
    | zero => rfl
    | succ n ih => unfold hmN; rw [ih]; rfl
  unfold gaI hoN
  show nI (mK (mo (ctS s (rnN s hr)) p0 (rnN s hr))) - nI (sA s 3 * hmN (ctS s (rnN s hr)) (mS (mo (ctS s (rnN s hr)) p0 (rnN s hr))) (sN s)) = _
  rw [hm, h1, h2.1, h2.2]
def oRn (A : XA) (hr : Int32) : XA × Int32 := match rgI 0 6 hr with
  | none => rfI A 0 (-1000002)
  | some k => (A, gaI (aS A) p0 - gaI (aS A) (pRn k))
def oNb (A : XA) (t p w : Int32) : XA × Int32 := match thI (sN (aS A)) t with
  | none => rfI A 0 (-1000002)
  | some t => match rgI 0 99 p with
    | none => rfI A 0 (-1000002)
    | some p => match rgI 0 1 w with
      | none => rfI A 0 (-1000002)
      | some w => (A, if w = 0 then gaI (aS A) p0 - gaI (aS A) (pCp t p) else nI (bmN (pCp t p) (aS A) t))
section
variable {b m : Nat} {u : LU} {A : XA} {h h1 : Hp} {K : Option Value → Hp → Prop}
theorem k89 (hC : CL b A h) (hW : WF A) (w : Int32) (kk : ∀ h2, Fr (CW b) h h2 → CL b (oRn A w).1 h2 → K (some (.int (oRn A w).2)) h2) : AM 89 [.ref b, .int w] h K := by
  obtain ⟨⟨cn, kb, f0, f1, f3, f4, f5, f6⟩, ⟨ρ, β, hQ, hV, hO, -⟩, -, ⟨ρ', β', hT⟩, -⟩ := id hC
  have k5 : gK h (b + 73) = 5 := hT.1
  unfold oRn at kk
  cases h0 : rgI 0 6 w with
  | none =>
    rw [h0] at kk
    simp only [e89, v89_0, v89_1, v89_2, v89_4, v89_7, v89_10, v89_11, v89_13, kb, f0, f1, f3, f4, f5, f6, vrf_s, true_and, true_or, or_true, and_self, not_false_eq_true, pu_s, pu_n, z2_e0, z2_n0, z2_t, z2_f, c123, ri_0_7, ri_0_4, ri_0_40, ri_0_5, ri_1_99, ri_1_9, ri_0_99, ri_0_9, ri_0_6, ri_0_3, ri_0_255, ri_1_24, ri_3_39, ri_0_1, ri_0_8, ri_0_2, ri_1_30, ri_0_14, ri_12_16, h0, Option.isSome_none, reduceIte]
    exact k109 (w := 0) hC hW (by decide) (by decide) (fun h2 q2 hC2 => by simp only [pu_s, v89_16, far2, far3, far4, far5]; exact kk h2 q2 hC2)
  | some hr =>
    rw [h0] at kk
    obtain ⟨rfl, -, h6⟩ := rgI_s (by decide) (by decide) h0
    simp only [e89, v89_0, v89_1, v89_2, v89_4, v89_7, v89_17, v89_18, v89_21, v89_22, v89_25, kb, f0, f1, f3, f4, f5, f6, vrf_s, true_and, true_or, or_true, and_self, not_false_eq_true, pu_s, pu_n, z2_e0, z2_n0, z2_t, z2_f, c123, ri_0_7, ri_0_4, ri_0_40, ri_0_5, ri_1_99, ri_1_9, ri_0_99, ri_0_9, ri_0_6, ri_0_3, ri_0_255, ri_1_24, ri_3_39, ri_0_1, ri_0_8, ri_0_2, ri_1_30, ri_0_14, ri_12_16, h0, Option.isSome_some, i10, reduceIte, k5]
    refine c44 cn (by omega) hT (by omega) hQ hV hO (fun h2 q2 hP2 hG2 => ?_)
    have hC2 := hC.ut hW q2 TWc ⟨ρ', β', hP2.1⟩
    obtain ⟨⟨cn2, kb2, -, -, g3, -⟩, -⟩ := id hC2
    obtain ⟨⟨t1, t2, t3, t4, hQ2, t6, t7⟩, hV2, hS2, hT2, hG2'⟩ := id hP2
    have k3 : gK h2 (b + 74) = 3 := hQ2.1
    simp only [pu_s, v89_28, v89_29, v89_30, v89_33, v89_36, v89_37, kb2, g3, vrf_s, t1, t2, k3, true_and]
    refine c26 hQ2 hV2 hO h6 (fun h3 q3 hQ3 hV3 => ?_)
    have q3t : Fr (TW (b + 74) (b + 110)) h2 h3 := q3.mo (fun x j z => by unfold TW; omega)
    have hS3 : TS (b + 73) (b + 74) (b + 110) ρ' β' h3 := ⟨q3.k.trans t1, (q3.r (fun z => by omega)).trans t2, (q3.r (fun z => by omega)).trans t3, t4.fr q3 (fun j _ _ z => by omega), hQ3, t6, t7⟩
    obtain ⟨w1, w2, w3, w4, w5, w6, w7, w8, w9, w10, w11, w12, w13, w14, w15, w16, w17, w18, w19, w20⟩ := id hS2
    have hSh3 : OSh (b + 110) (b + 74) h3 := ⟨q3.k.trans w1, (q3.r (fun z => by omega)).trans w2, (q3.r (fun z => by omega)).trans w3, (q3.r (fun z => by omega)).trans w4, (q3.r (fun z => by omega)).trans w5, (q3.r (fun z => by omega)).trans w6, (q3.r (fun z => by omega)).trans w7, (q3.r (fun z => by omega)).trans w8, q3.k.trans w9, q3.k.trans w10, q3.k.trans w11, q3.k.trans w12, q3.k.trans w13, q3.k.trans w14, q3.n.trans w15, q3.n.trans w16, q3.n.trans w17, q3.n.trans w18, q3.n.trans w19, q3.n.trans w20⟩
    have hT3 : OT (b + 110) (aS A) (pCap p0) h3 := ⟨(q3.i (fun z => by omega)).trans hT2.1, fun so t d a1 a2 a3 => (q3.i (fun z => by omega)).trans (hT2.2 so t d a1 a2 a3)⟩
    have hP3 : TP (b + 73) (b + 74) (b + 110) ρ' β' (ctS (aS A) (rnN (aS A) hr)) p0 h3 := ⟨hS3, hV3, hSh3, OT.same hT3 rfl (fun t ht => ⟨rfl, rfl, rfl⟩), ⟨(q3.i (fun z => by omega)).trans hG2'.1, fun q hq => by cases hq⟩⟩
    have kb3 : gK h3 b = 6 := q3.k.trans kb2
    have g33 : gR h3 b 3 = some (b + 73) := (q3.r (fun z => by omega)).trans g3
    have k53 := hP3.1.1
    simp only [pu_n, v89_40, v89_41, v89_42, v89_45, kb3, g33, vrf_s, k53, true_and]
    refine c43 hP3 (hO.ct (rdN_le _ _ _)) (p0_ok _) p0_cl (fun h4 q4 hP4 hD4 => ?_)
    have q5 := (q2.tr q3t).tr (q4.mo OW.t)
    simp only [pu_s, v89_48, v89_49, rain_ga hO]
    exact kk h4 (q5.mo TWw) (hC.ut hW q5 TWc ⟨ρ', β', hP4.1⟩)
def RNW (m a j : Nat) : Prop := DW m a j ∨ (a = m ∧ 29 ≤ j ∧ j ≤ 31)
theorem RNm : ∀ a j, RNW m a j → m ≤ a := fun a j z => by unfold RNW DW at z; omega
theorem RNy : ∀ a j, RNW m a j → MY m a j := fun a j z => by unfold RNW DW at z; unfold MY; omega
theorem MP.rn (hP : MP m (aS A) h) (hO : SOk (aS A)) (w : Fr (RNW m) h h1) : MP m (aS A) h1 := hP.fr hO w (fun a j z => by unfold RNW DW at z; exact ⟨fun y => by omega, fun y => by omega, fun y => by omega⟩)
theorem k209 (hR : MR m u A h) (hW : WF A) (w : Int32) (kk : ∀ (h2 : Hp) (u2 : LU), MG m h h2 → MR m u2 (oRn A w).1 h2 → K (some (.int (oRn A w).2)) h2) : AM 209 [.ref m, .int w] h K := by
  obtain ⟨r0, hM, hpp, hP, hQ, hS, hT, hF, hL⟩ := id hR
  unfold oRn at kk
  replace kk := fun h2 => kk h2 u
  cases h0 : rgI 0 6 w with
  | none =>
    rw [h0] at kk
    simp only [e209, v209_0, v209_1, v209_2, v209_3, v209_6, v209_9, v209_12, v209_15, v209_16, v209_18, hM.f0, hM.f1, hM.f2, hM.f3, hM.f4, hM.f5, hM.f6, hM.f8, hM.f10, hM.f12, hM.f13, hM.f25, hM.f27, hM.f28, hM.f36, hM.f37, hM.f38, hM.f40, hM.k0, hM.k1, hM.k2, hM.k3, hM.k4, hM.k13, hM.k14, hM.k15, hM.k16, hM.k17, hM.k26, hM.k51, hM.k52, hM.k53, hM.k54, hM.k55, hM.k56, hM.k57, hM.k58, hM.n1, hM.n2, hM.n3, hM.n4, hM.n13, hM.n14, hM.n15, hM.n16, hM.n17, hM.n26, hM.n51, hM.n52, hM.n53, hM.n54, hM.n55, hM.n56, hM.n57, hM.n58, vrf_s, true_or, or_true, true_and, and_true, and_self, not_false_eq_true, pu_s, pu_n, z2_e0, z2_n0, z2_t, z2_f, c135, rj_0_7, rj_0_4, rj_0_40, rj_0_5, rj_1_99, rj_1_9, rj_0_99, rj_0_9, rj_0_6, rj_0_3, rj_0_255, rj_1_24, rj_3_39, rj_0_1, rj_0_8, rj_0_2, rj_1_30, rj_0_14, rj_12_16, h0, Option.isSome_none, reduceIte]
    exact k134 (w := 0) hR hW (by decide) (by decide) (fun h2 q2 hR2 => by simp only [pu_s, v209_21, v209_22, far2]; exact kk h2 (MG.of q2 (fun a j z => by omega)) hR2)
  | some hr =>
    rw [h0] at kk
    obtain ⟨rfl, -, h6⟩ := rgI_s (by decide) (by decide) h0
    simp only [e209, v209_0, v209_1, v209_2, v209_3, v209_6, v209_9, v209_23, v209_24, hM.f0, hM.f1, hM.f2, hM.f3, hM.f4, hM.f5, hM.f6, hM.f8, hM.f10, hM.f12, hM.f13, hM.f25, hM.f27, hM.f28, hM.f36, hM.f37, hM.f38, hM.f40, hM.k0, hM.k1, hM.k2, hM.k3, hM.k4, hM.k13, hM.k14, hM.k15, hM.k16, hM.k17, hM.k26, hM.k51, hM.k52, hM.k53, hM.k54, hM.k55, hM.k56, hM.k57, hM.k58, hM.n1, hM.n2, hM.n3, hM.n4, hM.n13, hM.n14, hM.n15, hM.n16, hM.n17, hM.n26, hM.n51, hM.n52, hM.n53, hM.n54, hM.n55, hM.n56, hM.n57, hM.n58, vrf_s, true_or, or_true, true_and, and_true, and_self, not_false_eq_true, pu_s, pu_n, z2_e0, z2_n0, z2_t, z2_f, c135, rj_0_7, rj_0_4, rj_0_40, rj_0_5, rj_1_99, rj_1_9, rj_0_99, rj_0_9, rj_0_6, rj_0_3, rj_0_255, rj_1_24, rj_3_39, rj_0_1, rj_0_8, rj_0_2, rj_1_30, rj_0_14, rj_12_16, h0, Option.isSome_some, i10, reduceIte]
    refine c188 hM hP hW.1 (p0_ok _) hpp (fun h2 q2 hD2 => ?_)
    have hR2 := hR.sc hW q2 (fun a j z => z.z)
    obtain ⟨r0, hM2, ⟨p1, ⟨p2, p3⟩, p4, p5, p6⟩, hP2, hQ2, -⟩ := id hR2
    simp only [pu_s, v209_27, v209_28, v209_29, v209_30, v209_33, v209_34, v209_35, hM2.k0, gI_pJ, gI_pR, gJ_pI, gJ_pR, gR_pI, gR_pJ, gK_pI, gK_pJ, gK_pR, gN_pI, gN_pJ, gN_pR, gX_pI, gX_pJ, gX_pR, gS_pI, gS_pJ, gS_pR, gK_cpI, gN_cpI, gK_cpJ, gN_cpJ, gR_cpI, gR_cpJ, gJ_cpI, gI_cpJ, true_and]
    have q3 : Fr (RNW m) h2 (pI h2 m 29 (nI hr)) := Fr.rf.pI (Or.inr ⟨rfl, by omega, by omega⟩)
    refine c188 (π := pRn hr) (hM2.my q3 RNy) (hP2.rn hW.1 q3) hW.1 (pRn_ok _ h6) ⟨gI_at _ _ _ _, ⟨(gI_ne (by omega)).trans p2, fun q hq => (by cases hq)⟩, (gI_ne (by omega)).trans p4, fun q hq => (by cases hq), (gI_ne (by omega)).trans p6⟩ (fun h3 q4 hD3 => ?_)
    have q5 : Fr (RNW m) h2 h3 := q3.tr (q4.mo (fun a j z => Or.inl z))
    have k7 := (hM2.my q5 RNy).k0
    have q6 : Fr (RNW m) h2 (pI h3 m 29 7) := q5.pI (Or.inr ⟨rfl, by omega, by omega⟩)
    have n : ∀ j, 30 ≤ j → j ≤ 35 → gI (pI h3 m 29 7) m j = gI h2 m j := fun j h1 h2 => by rw [gI_ne (by omega), q4.i (fun z => by unfold DW at z; omega), gI_ne (by omega)]
    simp only [pu_s, v209_38, v209_39, v209_40, v209_41, v209_43, v209_46, v209_47, k7, true_and]
    exact kk _ (MG.of (F := fun a j => m ≤ a) ((q2.mo DWm).tr (q6.mo RNm)) (fun a j z => z)) (hR2.upd (s := aS A) (q := aQ A) hW q6 RNy ⟨gI_at _ _ _ _, ⟨(n 30 (by omega) (by omega)).trans p2, fun q hq => (by cases hq)⟩, (n 32 (by omega) (by omega)).trans p4, fun q hq => (by cases hq), (n 35 (by omega) (by omega)).trans p6⟩ (hP2.rn hW.1 q6) (hQ2.fr q6 (fun j _ _ z => by unfold RNW DW at z; omega)))
theorem k90 (hC : CL b A h) (hW : WF A) (t p w : Int32) (kk : ∀ h2, Fr (CW b) h h2 → CL b (oNb A t p w).1 h2 → K (some (.int (oNb A t p w).2)) h2) : AM 90 [.ref b, .int t, .int p, .int w] h K := by
  obtain ⟨⟨cn, kb, f0, f1, f3, f4, f5, f6⟩, ⟨ρ, β, hQ, hV, hO, -⟩, -, ⟨ρ', β', hT⟩, -⟩ := id hC
  have k5 : gK h (b + 73) = 5 := hT.1
  unfold oNb at kk
  cases h0 : thI (sN (aS A)) t with
  | none =>
    rw [h0] at kk
    simp only [e90, v90_0, v90_1, v90_2, v90_5, v90_27, v90_28, v90_30, kb, f0, f1, f3, f4, f5, f6, vrf_s, true_and, true_or, or_true, and_self, not_false_eq_true, pu_s, pu_n, z2_e0, z2_n0, z2_t, z2_f, k111 hC hW, h0, Option.isSome_none, reduceIte]
    exact k109 (w := 0) hC hW (by decide) (by decide) (fun h2 q2 hC2 => by simp only [pu_s, v90_33, far2, far3, far4, far5]; exact kk h2 q2 hC2)
  | some t' =>
    rw [h0] at kk
    cases h1 : rgI 0 99 p with
    | none =>
      rw [h1] at kk
      simp only [e90, v90_0, v90_1, v90_2, v90_5, v90_8, v90_9, v90_10, v90_12, v90_15, v90_27, v90_28, v90_30, kb, f0, f1, f3, f4, f5, f6, vrf_s, true_and, true_or, or_true, and_self, not_false_eq_true, pu_s, pu_n, z2_e0, z2_n0, z2_t, z2_f, k111 hC hW, h0, Option.isSome_some, i10, c123, ri_0_7, ri_0_4, ri_0_40, ri_0_5, ri_1_99, ri_1_9, ri_0_99, ri_0_9, ri_0_6, ri_0_3, ri_0_255, ri_1_24, ri_3_39, ri_0_1, ri_0_8, ri_0_2, ri_1_30, ri_0_14, ri_12_16, h1, Option.isSome_none, reduceIte]
      exact k109 (w := 0) hC hW (by decide) (by decide) (fun h2 q2 hC2 => by simp only [pu_s, v90_33, far2, far3, far4, far5]; exact kk h2 q2 hC2)
    | some p' =>
      rw [h1] at kk
      cases h2 : rgI 0 1 w with
      | none =>
        rw [h2] at kk
        simp only [e90, v90_0, v90_1, v90_2, v90_5, v90_8, v90_9, v90_10, v90_12, v90_15, v90_18, v90_19, v90_20, v90_21, v90_24, v90_27, v90_28, v90_30, kb, f0, f1, f3, f4, f5, f6, vrf_s, true_and, true_or, or_true, and_self, not_false_eq_true, pu_s, pu_n, z2_e0, z2_n0, z2_t, z2_f, k111 hC hW, h0, Option.isSome_some, i10, c123, ri_0_7, ri_0_4, ri_0_40, ri_0_5, ri_1_99, ri_1_9, ri_0_99, ri_0_9, ri_0_6, ri_0_3, ri_0_255, ri_1_24, ri_3_39, ri_0_1, ri_0_8, ri_0_2, ri_1_30, ri_0_14, ri_12_16, h1, h2, Option.isSome_none, reduceIte]
        exact k109 (w := 0) hC hW (by decide) (by decide) (fun h2 q2 hC2 => by simp only [pu_s, v90_33, far2, far3, far4, far5]; exact kk h2 q2 hC2)
      | some w' =>
        rw [h2] at kk
        dsimp only at kk
        have hn := hW.1.1
        simp only [e90, v90_0, v90_1, v90_2, v90_5, v90_8, v90_9, v90_10, v90_12, v90_15, v90_18, v90_19, v90_20, v90_21, v90_24, v90_34, v90_35, v90_38, v90_39, v90_42, kb, f0, f1, f3, f4, f5, f6, vrf_s, true_and, true_or, or_true, and_self, not_false_eq_true, pu_s, pu_n, z2_e0, z2_n0, z2_t, z2_f, k111 hC hW, h0, Option.isSome_some, i10, c123, ri_0_7, ri_0_4, ri_0_40, ri_0_5, ri_1_99, ri_1_9, ri_0_99, ri_0_9, ri_0_6, ri_0_3, ri_0_255, ri_1_24, ri_3_39, ri_0_1, ri_0_8, ri_0_2, ri_1_30, ri_0_14, ri_12_16, h1, h2, reduceIte, k5]
        obtain ⟨rfl, ht⟩ := thI_s (by omega) h0
        obtain ⟨rfl, -, hp9⟩ := rgI_s (by decide) (by decide) h1
        obtain ⟨ew, -, hw1⟩ := rgI_s (by decide) (by decide) h2
        refine c44 cn (by omega) hT (by omega) hQ hV hO (fun h2 q2 hP2 hG2 => ?_)
        have hC2 := hC.ut hW q2 TWc ⟨ρ', β', hP2.1⟩
        obtain ⟨⟨cn2, kb2, -, -, g3, -⟩, -⟩ := id hC2
        obtain ⟨hS2, hV2, hSh2, hT2, hG2'⟩ := id hP2
        have t1 := hS2.1
        have t3 := hS2.2.2.1
        have ko : gK h2 (b + 110) = 1 := hSh2.1
        simp only [pu_s, v90_45, v90_47, v90_48, v90_51, v90_54, v90_55, v90_56, kb2, g3, vrf_s, t1, t3, ko, true_and]
        refine c3 hSh2 hO hT2 ht hp9 (fun h3 q3 hT3 => ?_)
        have q3p : Fr (PV (b + 110)) h2 h3 := q3.mo (fun x j z => Or.inl z)
        have hP3 : TP (b + 73) (b + 74) (b + 110) ρ' β' (aS A) (pCp t' p') h3 := ⟨⟨q3.k.trans t1, (q3.r (fun z => by omega)).trans hS2.2.1, (q3.r (fun z => by omega)).trans t3, hS2.2.2.2.1.fr q3 (fun j _ _ z => by omega), hS2.2.2.2.2.1.fr q3 (fun u j z => by omega), hS2.2.2.2.2.2.1, hS2.2.2.2.2.2.2⟩, SV.fr hS2.2.2.2.2.1 hV2 hO q3 (fun u j z => by omega), hSh2.pv q3p, hT3, ⟨(q3.i (fun z => by omega)).trans hG2'.1, fun q hq => by cases hq⟩⟩
        have q3t : Fr (TW (b + 74) (b + 110)) h2 h3 := q3.mo (fun x j z => by unfold TW; omega)
        have kb3 : gK h3 b = 6 := q3.k.trans kb2
        have g33 : gR h3 b 3 = some (b + 73) := (q3.r (fun z => by omega)).trans g3
        have k53 := hP3.1.1
        rcases (show w' = 0 ∨ w' = 1 by omega) with rfl | rfl
        · have e : w = 0 := ew
          subst e
          simp only [pu_n, v90_59, v90_60, v90_63, v90_65, v90_66, v90_69, kb3, g33, vrf_s, k53, not_true_eq_false, reduceIte, true_and]
          refine c43 hP3 hO (pCp_ok hO ht hp9) (pCp_cl _ _) (fun h4 q4 hP4 hD4 => ?_)
          have q5 := (q2.tr q3t).tr (q4.mo OW.t)
          simp only [pu_s, v90_72, v90_73, v90_84]
          exact kk h4 (q5.mo TWw) (hC.ut hW q5 TWc ⟨ρ', β', hP4.1⟩)
        · have e : w = 1 := ew
          subst e
          simp only [pu_n, v90_59, v90_60, v90_76, v90_77, v90_80, v90_81, kb3, g33, vrf_s, k53, i10, not_false_eq_true, reduceIte, true_and]
          refine c50 hP3 hO (pCp_ok hO ht hp9) (pCp_cl _ _) rfl ht (fun h4 q4 hP4 => ?_)
          have q5 := (q2.tr q3t).tr q4
          simp only [pu_s, v90_84]
          exact kk h4 (q5.mo TWw) (hC.ut hW q5 TWc ⟨ρ', β', hP4.1⟩)
theorem k210 (hR : MR m u A h) (hW : WF A) (t p w : Int32) (kk : ∀ (h2 : Hp) (u2 : LU), MG m h h2 → MR m u2 (oNb A t p w).1 h2 → K (some (.int (oNb A t p w).2)) h2) : AM 210 [.ref m, .int t, .int p, .int w] h K := by
  obtain ⟨r0, hM, hpp, hP, hQ, hS, hT, hF, hL⟩ := id hR
  unfold oNb at kk
  replace kk := fun h2 => kk h2 u
  have ref0 : (∀ h2, MG m h h2 → MR m u (rfu A 0) h2 → K (some (.int (-1000002))) h2) → AM 134 [.ref m, .int (-2)] h (fun r h1 => V 210 39 [.ref m, .int t, .int p, .int w, un0, un0] (pu r [.int (-1000000)]) h1 K) := fun k2 => k134 (w := 0) hR hW (by decide) (by decide) (fun h2 q2 hR2 => by simp only [pu_s, v210_39, v210_40, far2]; exact k2 h2 (MG.of q2 (fun a j z => by omega)) hR2)
  cases h0 : thI (sN (aS A)) t with
  | none =>
    rw [h0] at kk
    simp only [e210, v210_0, v210_1, v210_2, v210_5, v210_30, v210_33, v210_34, v210_36, hM.f0, hM.f1, hM.f2, hM.f3, hM.f4, hM.f5, hM.f6, hM.f8, hM.f10, hM.f12, hM.f13, hM.f25, hM.f27, hM.f28, hM.f36, hM.f37, hM.f38, hM.f40, hM.k0, hM.k1, hM.k2, hM.k3, hM.k4, hM.k13, hM.k14, hM.k15, hM.k16, hM.k17, hM.k26, hM.k51, hM.k52, hM.k53, hM.k54, hM.k55, hM.k56, hM.k57, hM.k58, hM.n1, hM.n2, hM.n3, hM.n4, hM.n13, hM.n14, hM.n15, hM.n16, hM.n17, hM.n26, hM.n51, hM.n52, hM.n53, hM.n54, hM.n55, hM.n56, hM.n57, hM.n58, vrf_s, true_or, or_true, true_and, and_true, and_self, not_false_eq_true, pu_s, pu_n, z2_e0, z2_n0, z2_t, z2_f, k136 hR hW, h0, Option.isSome_none, reduceIte]
    exact ref0 kk
  | some t' =>
    rw [h0] at kk
    cases h1 : rgI 0 99 p with
    | none =>
      rw [h1] at kk
      simp only [e210, v210_0, v210_1, v210_2, v210_5, v210_8, v210_9, v210_10, v210_11, v210_14, v210_17, v210_30, v210_33, v210_34, v210_36, hM.f0, hM.f1, hM.f2, hM.f3, hM.f4, hM.f5, hM.f6, hM.f8, hM.f10, hM.f12, hM.f13, hM.f25, hM.f27, hM.f28, hM.f36, hM.f37, hM.f38, hM.f40, hM.k0, hM.k1, hM.k2, hM.k3, hM.k4, hM.k13, hM.k14, hM.k15, hM.k16, hM.k17, hM.k26, hM.k51, hM.k52, hM.k53, hM.k54, hM.k55, hM.k56, hM.k57, hM.k58, hM.n1, hM.n2, hM.n3, hM.n4, hM.n13, hM.n14, hM.n15, hM.n16, hM.n17, hM.n26, hM.n51, hM.n52, hM.n53, hM.n54, hM.n55, hM.n56, hM.n57, hM.n58, vrf_s, true_or, or_true, true_and, and_true, and_self, not_false_eq_true, pu_s, pu_n, z2_e0, z2_n0, z2_t, z2_f, k136 hR hW, h0, Option.isSome_some, i10, c135, rj_0_7, rj_0_4, rj_0_40, rj_0_5, rj_1_99, rj_1_9, rj_0_99, rj_0_9, rj_0_6, rj_0_3, rj_0_255, rj_1_24, rj_3_39, rj_0_1, rj_0_8, rj_0_2, rj_1_30, rj_0_14, rj_12_16, h1, Option.isSome_none, reduceIte]
      exact ref0 kk
    | some p' =>
      rw [h1] at kk
      cases hw2 : rgI 0 1 w with
      | none =>
        rw [hw2] at kk
        simp only [e210, v210_0, v210_1, v210_2, v210_5, v210_8, v210_9, v210_10, v210_11, v210_14, v210_17, v210_20, v210_21, v210_22, v210_23, v210_24, v210_27, v210_30, v210_33, v210_34, v210_36, hM.f0, hM.f1, hM.f2, hM.f3, hM.f4, hM.f5, hM.f6, hM.f8, hM.f10, hM.f12, hM.f13, hM.f25, hM.f27, hM.f28, hM.f36, hM.f37, hM.f38, hM.f40, hM.k0, hM.k1, hM.k2, hM.k3, hM.k4, hM.k13, hM.k14, hM.k15, hM.k16, hM.k17, hM.k26, hM.k51, hM.k52, hM.k53, hM.k54, hM.k55, hM.k56, hM.k57, hM.k58, hM.n1, hM.n2, hM.n3, hM.n4, hM.n13, hM.n14, hM.n15, hM.n16, hM.n17, hM.n26, hM.n51, hM.n52, hM.n53, hM.n54, hM.n55, hM.n56, hM.n57, hM.n58, vrf_s, true_or, or_true, true_and, and_true, and_self, not_false_eq_true, pu_s, pu_n, z2_e0, z2_n0, z2_t, z2_f, k136 hR hW, h0, Option.isSome_some, i10, c135, rj_0_7, rj_0_4, rj_0_40, rj_0_5, rj_1_99, rj_1_9, rj_0_99, rj_0_9, rj_0_6, rj_0_3, rj_0_255, rj_1_24, rj_3_39, rj_0_1, rj_0_8, rj_0_2, rj_1_30, rj_0_14, rj_12_16, h1, hw2, Option.isSome_none, reduceIte]
        exact ref0 kk
      | some w' =>
        rw [hw2] at kk
        dsimp only at kk
        have hn := hW.1.1
        simp only [e210, v210_0, v210_1, v210_2, v210_5, v210_8, v210_9, v210_10, v210_11, v210_14, v210_17, v210_20, v210_21, v210_22, v210_23, v210_24, v210_27, v210_41, v210_42, hM.f0, hM.f1, hM.f2, hM.f3, hM.f4, hM.f5, hM.f6, hM.f8, hM.f10, hM.f12, hM.f13, hM.f25, hM.f27, hM.f28, hM.f36, hM.f37, hM.f38, hM.f40, hM.k0, hM.k1, hM.k2, hM.k3, hM.k4, hM.k13, hM.k14, hM.k15, hM.k16, hM.k17, hM.k26, hM.k51, hM.k52, hM.k53, hM.k54, hM.k55, hM.k56, hM.k57, hM.k58, hM.n1, hM.n2, hM.n3, hM.n4, hM.n13, hM.n14, hM.n15, hM.n16, hM.n17, hM.n26, hM.n51, hM.n52, hM.n53, hM.n54, hM.n55, hM.n56, hM.n57, hM.n58, vrf_s, true_or, or_true, true_and, and_true, and_self, not_false_eq_true, pu_s, pu_n, z2_e0, z2_n0, z2_t, z2_f, k136 hR hW, h0, Option.isSome_some, i10, c135, rj_0_7, rj_0_4, rj_0_40, rj_0_5, rj_1_99, rj_1_9, rj_0_99, rj_0_9, rj_0_6, rj_0_3, rj_0_255, rj_1_24, rj_3_39, rj_0_1, rj_0_8, rj_0_2, rj_1_30, rj_0_14, rj_12_16, h1, hw2, reduceIte]
        clear ref0
        obtain ⟨rfl, ht⟩ := thI_s (by omega) h0
        obtain ⟨rfl, -, hp9⟩ := rgI_s (by decide) (by decide) h1
        obtain ⟨ew, -, hw1⟩ := rgI_s (by decide) (by decide) hw2
        refine c188 hM hP hW.1 (p0_ok _) hpp (fun h2 q2 hD2 => ?_)
        have hR2 := hR.sc hW q2 (fun a j z => z.z)
        obtain ⟨r0, hM2, ⟨p1, ⟨p2, p3⟩, p4, p5, p6⟩, hP2, hQ2, -⟩ := id hR2
        have q3 : Fr (RNW m) h2 (pI (pI h2 m 30 (nI t')) m 31 (nI p')) := (Fr.rf.pI (Or.inr ⟨rfl, by omega, by omega⟩)).pI (Or.inr ⟨rfl, by omega, by omega⟩)
        have hM3 := hM2.my q3 RNy
        have hP3 := hP2.rn hW.1 q3
        have pp3 : PP m (pCp t' p') (pI (pI h2 m 30 (nI t')) m 31 (nI p')) := ⟨by rw [gI_ne (by omega), gI_ne (by omega)]; exact p1, ⟨by rw [gI_ne (by omega), gI_at]; rfl, fun q hq => by cases hq; exact ⟨by show t' < 8; omega, hp9, gI_at _ _ _ _⟩⟩, by rw [gI_ne (by omega), gI_ne (by omega)]; exact p4, fun q hq => (by cases hq), by rw [gI_ne (by omega), gI_ne (by omega)]; exact p6⟩
        rcases (show w' = 0 ∨ w' = 1 by omega) with rfl | rfl
        · have e : w = 0 := ew
          subst e
          simp only [pu_s, v210_45, v210_47, v210_48, v210_49, v210_52, v210_53, v210_54, v210_57, v210_58, v210_61, v210_63, v210_64, hM2.k0, gI_pJ, gI_pR, gJ_pI, gJ_pR, gR_pI, gR_pJ, gK_pI, gK_pJ, gK_pR, gN_pI, gN_pJ, gN_pR, gX_pI, gX_pJ, gX_pR, gS_pI, gS_pJ, gS_pR, gK_cpI, gN_cpI, gK_cpJ, gN_cpJ, gR_cpI, gR_cpJ, gJ_cpI, gI_cpJ, not_true_eq_false, reduceIte, true_and]
          refine c188 (π := pCp t' p') hM3 hP3 hW.1 (pCp_ok hW.1 ht hp9) pp3 (fun h3 q4 hD3 => ?_)
          have q5 : Fr (RNW m) h2 h3 := q3.tr (q4.mo (fun a j z => Or.inl z))
          have k7 := (hM2.my q5 RNy).k0
          have q6 : Fr (RNW m) h2 (pI h3 m 30 (-1)) := q5.pI (Or.inr ⟨rfl, by omega, by omega⟩)
          have n : ∀ j, (j = 29 ∨ 32 ≤ j) → j ≤ 35 → gI (pI h3 m 30 (-1)) m j = gI h2 m j := fun j h1 h2 => by rw [gI_ne (by omega), q4.i (fun z => by unfold DW at z; omega), gI_ne (by omega), gI_ne (by omega)]
          simp only [pu_s, v210_67, v210_68, v210_79, v210_81, v210_82, v210_83, v210_86, v210_88, k7, true_and]
          exact kk _ (MG.of (F := fun a j => m ≤ a) ((q2.mo DWm).tr (q6.mo RNm)) (fun a j z => z)) (hR2.upd (s := aS A) (q := aQ A) hW q6 RNy ⟨(n 29 (by omega) (by omega)).trans p1, ⟨gI_at _ _ _ _, fun q hq => (by cases hq)⟩, (n 32 (by omega) (by omega)).trans p4, fun q hq => (by cases hq), (n 35 (by omega) (by omega)).trans p6⟩ (hP2.rn hW.1 q6) (hQ2.fr q6 (fun j _ _ z => by unfold RNW DW at z; omega)))
        · have e : w = 1 := ew
          subst e
          simp only [pu_s, v210_45, v210_47, v210_48, v210_49, v210_52, v210_53, v210_54, v210_57, v210_58, v210_71, v210_72, v210_73, v210_74, v210_76, hM2.k0, hM3.k0, gI_pJ, gI_pR, gJ_pI, gJ_pR, gR_pI, gR_pJ, gK_pI, gK_pJ, gK_pR, gN_pI, gN_pJ, gN_pR, gX_pI, gX_pJ, gX_pR, gS_pI, gS_pJ, gS_pR, gK_cpI, gN_cpI, gK_cpJ, gN_cpJ, gR_cpI, gR_cpJ, gJ_cpI, gI_cpJ, i10, not_false_eq_true, reduceIte, true_and]
          refine c196 (π := pCp t' p') (k := 5) (most := 99) hM3 hP3 hW.1 (pCp_ok hW.1 ht hp9) pp3 ht (Or.inl ⟨rfl, rfl⟩) (fun h3 q4 hP4 => ?_)
          have hy : ∀ a j, (RNW m a j ∨ XW m t' a j) → MY m a j := fun a j z => by unfold RNW XW DW at z; unfold MY; omega
          have q5 : Fr (fun a j => RNW m a j ∨ XW m t' a j) h2 h3 := (q3.mo (fun a j z => Or.inl z)).tr (q4.mo (fun a j z => Or.inr z))
          have k7 := (hM2.my q5 hy).k0
          have q6 : Fr (fun a j => RNW m a j ∨ XW m t' a j) h2 (pI h3 m 30 (-1)) := q5.pI (Or.inl (Or.inr ⟨rfl, by omega, by omega⟩))
          have n : ∀ j, (j = 29 ∨ 32 ≤ j) → j ≤ 35 → gI (pI h3 m 30 (-1)) m j = gI h2 m j := fun j h1 h2 => by rw [gI_ne (by omega), q4.i (fun z => by unfold XW DW at z; omega), gI_ne (by omega), gI_ne (by omega)]
          have q7 : Fr (fun x j => x = m ∧ j = 30) h3 (pI h3 m 30 (-1)) := Fr.rf.pI ⟨rfl, rfl⟩
          have hP5 := hP4.fr hW.1 q7 (fun a j z => ⟨fun y => by omega, fun y => by omega, fun y => by omega⟩)
          simp only [pu_s, v210_79, v210_81, v210_82, v210_83, v210_86, v210_88, k7, true_and]
          exact kk _ (MG.of (F := fun a j => m ≤ a) ((q2.mo DWm).tr (q6.mo (fun a j z => by unfold RNW XW DW at z; omega))) (fun a j z => z)) (hR2.upd (s := aS A) (q := aQ A) hW q6 hy ⟨(n 29 (by omega) (by omega)).trans p1, ⟨gI_at _ _ _ _, fun q hq => (by cases hq)⟩, (n 32 (by omega) (by omega)).trans p4, fun q hq => (by cases hq), (n 35 (by omega) (by omega)).trans p6⟩ hP5 (hQ2.fr q6 (fun j _ _ z => by unfold RNW XW DW at z; omega)))
end
