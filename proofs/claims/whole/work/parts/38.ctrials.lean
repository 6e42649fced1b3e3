/-! THE CLASS'S TRIALS at r: their stall at a, their morning at o -/
def p0 : PR := (7, none, none, none)
theorem p0_cl : PCl p0 := ⟨rfl, rfl, fun q h => by cases h⟩
theorem p0_ok (s : SG) : POk s p0 := ⟨Nat.le_refl _, fun q h => (by cases h), fun q h => (by cases h), fun q h => (by cases h)⟩
/-- shape -/
def TS (r a o : Nat) (ρ β : Nat → Nat) (h : Hp) : Prop := gK h r = 5 ∧ gR h r 0 = some a ∧ gR h r 1 = some o ∧ OS0 o h ∧ SQ a ρ β h ∧ a + 36 ≤ o ∧ r < a
/-- made ready for the stall s with the parameters π -/
def TP (r a o : Nat) (ρ β : Nat → Nat) (s : SG) (π : PR) (h : Hp) : Prop := TS r a o ρ β h ∧ SV a ρ β s h ∧ OSh o a h ∧ OT o s (pCap π) h ∧ GP o π h
/-- a morning has gone by -/
def GD (o : Nat) (s : SG) (π : PR) (h : Hp) : Prop := DC o s (mo s π (sM s)) (onS s π) (sM s) h ∧ gI h o 5 = nI (msk (fun t => !mS (mo s π (sM s)) t) (sN s)) ∧ gI h o 6 = nI (hoN s π) ∧ gI h o 7 = gaI s π
def TW (a o : Nat) (x _ : Nat) : Prop := (a ≤ x ∧ x < a + 36) ∨ (o ≤ x ∧ x ≤ o + 6)
section
variable {r a o c c0 : Nat} {ρ β ρ' β' : Nat → Nat} {s : SG} {π : PR} {h h1 : Hp} {K : Option Value → Hp → Prop}
theorem OS0.fr {F : Nat → Nat → Prop} (hS : OS0 o h) (q : Fr F h h1) (hF : ∀ j, j ≠ 8 → (j ≤ 3 ∨ j = 9 ∨ j = 10) → ¬ F o j) : OS0 o h1 := by
  obtain ⟨w1, w2, w3, w4, w5, w6, w7, w9, w10, w11, w12, w13, w14, w15, w16, w17, w18, w19, w20⟩ := hS
  exact ⟨q.k.trans w1, (q.r (hF _ (by decide) (by decide))).trans w2, (q.r (hF _ (by decide) (by decide))).trans w3, (q.r (hF _ (by decide) (by decide))).trans w4, (q.r (hF _ (by decide) (by decide))).trans w5, (q.r (hF _ (by decide) (by decide))).trans w6, (q.r (hF _ (by decide) (by decide))).trans w7, q.k.trans w9, q.k.trans w10, q.k.trans w11, q.k.trans w12, q.k.trans w13, q.k.trans w14, q.n.trans w15, q.n.trans w16, q.n.trans w17, q.n.trans w18, q.n.trans w19, q.n.trans w20⟩
theorem TS.ow (hT : TS r a o ρ β h) (q : Fr (OW o) h h1) : TS r a o ρ β h1 := by
  obtain ⟨t1, t2, t3, t4, t5, t6, t7⟩ := hT
  exact ⟨q.k.trans t1, (q.r (fun z => by unfold OW at z; omega)).trans t2, (q.r (fun z => by unfold OW at z; omega)).trans t3, t4.fr q (fun j h1 h2 z => by unfold OW at z; omega), t5.ow t6 q, t6, t7⟩
theorem TP.ow (hP : TP r a o ρ β s π h) (hO : SOk s) (q : Fr (OW o) h h1) : TP r a o ρ β s π h1 := ⟨hP.1.ow q, hP.2.1.ow hP.1.2.2.2.2.1 hO hP.1.2.2.2.2.2.1 q, hP.2.2.1.ow q, hP.2.2.2.1.ow q, hP.2.2.2.2.ow q⟩
theorem OW.t : ∀ x j : Nat, OW o x j → TW a o x j := fun x j z => by unfold OW at z; unfold TW; omega
theorem PW.t : ∀ x j : Nat, PW o x j → TW a o x j := fun x j z => by unfold PW at z; unfold TW; omega
theorem BW.t : ∀ x j : Nat, BW a x j → TW a o x j := fun x j z => by unfold BW at z; unfold TW; omega
/-- prepare, over the trials' own stall -/
theorem c1_T (hC : CN c0 h) (hc0 : c0 ≤ r) (hT : TS r a o ρ β h) (hV : SV a ρ β s h) (hO : SOk s) (kk : ∀ h2, Fr (PW o) h h2 → TP r a o ρ β s p0 h2 → K none h2) : AM 1 [.ref o, .ref a] h K := by
  obtain ⟨t1, t2, t3, t4, t5, t6, t7⟩ := id hT
  refine c1 hC (by omega) t6 t4 t5 hV hO (fun h2 q2 hS2 hT2 x15 => kk h2 q2 ⟨⟨q2.k.trans t1, (q2.r (fun z => by unfold PW at z; omega)).trans t2, (q2.r (fun z => by unfold PW at z; omega)).trans t3, hS2.s0, t5.pw t6 q2, t6, t7⟩, hV.pw t5 hO t6 q2, hS2, hT2, ⟨x15, fun q hq => by cases hq⟩⟩)
/-- start -/
theorem c42 (hC : CN c0 h) (hc0 : c0 ≤ r) (hT : TS r a o ρ β h) (hne : c + 36 ≤ r) (hQ' : SQ c ρ' β' h) (hP : SV c ρ' β' s h) (hO : SOk s) (kk : ∀ h2, Fr (TW a o) h h2 → TP r a o ρ β s p0 h2 → gI h2 a 5 = gI h c 5 → gI h2 a 6 = gI h c 6 → gI h2 a 7 = gI h c 7 → K none h2) : AM 42 [.ref r, .ref c] h K := by
  obtain ⟨t1, t2, t3, t4, t5, t6, t7⟩ := id hT
  have k3 : gK h a = 3 := t5.1
  simp only [e42, v42_0, v42_1, v42_4, v42_5, t1, t2, vrf_s, k3, true_and]
  refine c20 (Or.inl (by omega)) t5 hQ' hP hO (fun h2 q2 hV x5 x6 x7 => ?_)
  have hT2 : TS r a o ρ β h2 := ⟨q2.1.k.trans t1, (q2.1.r (fun z => by unfold BW at z; omega)).trans t2, (q2.1.r (fun z => by unfold BW at z; omega)).trans t3, t4.fr q2.1 (fun j h1 h2 z => by unfold BW at z; omega), t5.fi q2, t6, t7⟩
  obtain ⟨u1, u2, u3, u4, -⟩ := id hT2
  have k1 : gK h2 o = 1 := u4.1
  show V 42 8 _ (pu none []) h2 K
  simp only [pu_n, v42_8, v42_9, v42_12, v42_13, v42_16, u1, u2, u3, vrf_s, k1, true_and]
  refine c1_T (hC.fr q2.1 (fun x j z => by unfold BW at z; omega)) hc0 hT2 hV hO (fun h3 q3 hP3 => ?_)
  show V 42 19 _ (pu none []) h3 K
  simp only [pu_n, v42_19]
  have n : ∀ k, gI h3 a k = gI h2 a k := fun k => q3.i (fun z => by unfold PW at z; omega)
  exact kk h3 ((q2.1.mo BW.t).tr (q3.mo PW.t)) hP3 ((n _).trans x5) ((n _).trans x6) ((n _).trans x7)
/-- gainNow -/
theorem c43 (hP : TP r a o ρ β s π h) (hO : SOk s) (hp : POk s π) (hc : PCl π) (kk : ∀ h2, Fr (OW o) h h2 → TP r a o ρ β s π h2 → GD o s π h2 → K (some (.int (gaI s π))) h2) : AM 43 [.ref r] h K := by
  obtain ⟨⟨t1, t2, t3, t4, t5, t6, t7⟩, hV, hS, hT, hG⟩ := id hP
  have k1 : gK h o = 1 := hS.1
  simp only [e43, v43_0, v43_1, v43_4, t1, t3, vrf_s, k1, true_and]
  refine c7 t6 hS t5 hV hO hp hc hT hG (fun h2 q2 hD x5 x6 x7 => ?_)
  have hP2 := hP.ow hO q2
  obtain ⟨⟨t1, t2, t3, t4, t5, t6, t7⟩, hV, hS, hT, hG⟩ := id hP2
  have k1 : gK h2 o = 1 := hS.1
  show V 43 7 _ (pu none []) h2 K
  simp only [pu_n, v43_7, v43_8, v43_11, v43_14, t1, t3, vrf_s, k1, x7, true_and]
  exact kk h2 q2 hP2 ⟨hD, x5, x6, x7⟩
/-- gainOf -/
theorem c44 (hC : CN c0 h) (hc0 : c0 ≤ r) (hT : TS r a o ρ β h) (hne : c + 36 ≤ r) (hQ' : SQ c ρ' β' h) (hP : SV c ρ' β' s h) (hO : SOk s) (kk : ∀ h2, Fr (TW a o) h h2 → TP r a o ρ β s p0 h2 → GD o s p0 h2 → K (some (.int (gaI s p0))) h2) : AM 44 [.ref r, .ref c] h K := by
  have t1 := hT.1
  simp only [e44, v44_0, v44_1, v44_2, t1, true_and]
  refine c42 hC hc0 hT hne hQ' hP hO (fun h2 q2 hP2 _ _ _ => ?_)
  obtain ⟨⟨t1, t2, t3, t4, t5, t6, t7⟩, hV, hS, hT, hG⟩ := id hP2
  have k1 : gK h2 o = 1 := hS.1
  show V 44 5 _ (pu none []) h2 K
  simp only [pu_n, v44_5, v44_6, v44_9, t1, t3, vrf_s, k1, true_and]
  refine c7 t6 hS t5 hV hO (p0_ok s) p0_cl hT hG (fun h3 q3 hD x5 x6 x7 => ?_)
  have hP3 := hP2.ow hO q3
  obtain ⟨⟨t1, t2, t3, t4, t5, t6, t7⟩, hV, hS, hT, hG⟩ := id hP3
  have k1 : gK h3 o = 1 := hS.1
  show V 44 12 _ (pu none []) h3 K
  simp only [pu_n, v44_12, v44_13, v44_16, v44_19, t1, t3, vrf_s, k1, x7, true_and]
  exact kk h3 (q2.tr (q3.mo OW.t)) hP3 ⟨hD, x5, x6, x7⟩
/-- gainAnew: the trials' stall has been changed -/
theorem c45 (hC : CN c0 h) (hc0 : c0 ≤ r) (hT : TS r a o ρ β h) (hV : SV a ρ β s h) (hO : SOk s) (kk : ∀ h2, Fr (TW a o) h h2 → TP r a o ρ β s p0 h2 → GD o s p0 h2 → K (some (.int (gaI s p0))) h2) : AM 45 [.ref r] h K := by
  obtain ⟨t1, t2, t3, t4, t5, t6, t7⟩ := id hT
  have k1 : gK h o = 1 := t4.1
  simp only [e45, v45_0, v45_1, v45_4, v45_5, v45_8, t1, t2, t3, vrf_s, k1, true_and]
  refine c1_T hC hc0 hT hV hO (fun h2 q2 hP2 => ?_)
  obtain ⟨⟨t1, t2, t3, t4, t5, t6, t7⟩, hV, hS, hT, hG⟩ := id hP2
  have k1 : gK h2 o = 1 := hS.1
  show V 45 11 _ (pu none []) h2 K
  simp only [pu_n, v45_11, v45_12, v45_15, t1, t3, vrf_s, k1, true_and]
  refine c7 t6 hS t5 hV hO (p0_ok s) p0_cl hT hG (fun h3 q3 hD x5 x6 x7 => ?_)
  have hP3 := hP2.ow hO q3
  obtain ⟨⟨t1, t2, t3, t4, t5, t6, t7⟩, hV, hS, hT, hG⟩ := id hP3
  have k1 : gK h3 o = 1 := hS.1
  show V 45 18 _ (pu none []) h3 K
  simp only [pu_n, v45_18, v45_19, v45_22, v45_25, t1, t3, vrf_s, k1, x7, true_and]
  exact kk h3 ((q2.mo PW.t).tr (q3.mo OW.t)) hP3 ⟨hD, x5, x6, x7⟩
/-- an offer that is given away -/
def pG (b t : Nat) : PR := (7, none, some (b, t, 0), none)
theorem pG_cl (b t : Nat) : PCl (pG b t) := ⟨rfl, rfl, fun q h => by cases h; rfl⟩
theorem pG_ok {b t : Nat} (hO : SOk s) (hb : b < sM s) (ht : t < sN s) : POk s (pG b t) := ⟨Nat.le_refl _, fun q h => (by cases h), fun q h => (by cases h; exact ⟨Nat.lt_of_lt_of_le hb hO.2.1, ht, Nat.zero_le _⟩), fun q h => (by cases h)⟩
theorem c46 (hP : TP r a o ρ β s p0 h) (hO : SOk s) {b t : Nat} (hb : b < sM s) (ht : t < sN s) (kk : ∀ h2, Fr (TW a o) h h2 → TP r a o ρ β s (pG b t) h2 → GD o s (pG b t) h2 → K (some (.int (gaI s (pG b t)))) h2) : AM 46 [.ref r, .int (nI b), .int (nI t)] h K := by
  obtain ⟨⟨t1, t2, t3, t4, t5, t6, t7⟩, hV, hS, hT, hG⟩ := id hP
  have k1 : gK h o = 1 := hS.1
  simp only [e46, v46_0, v46_1, v46_4, v46_5, v46_6, t1, t3, vrf_s, k1, true_and, e4, v4_0, v4_1, v4_2, v4_5, v4_6, v4_7, v4_10, pu_n, v46_9, v46_10, gI_pJ, gI_pR, gJ_pI, gJ_pR, gR_pI, gR_pJ, gK_pI, gK_pJ, gK_pR, gN_pI, gN_pJ, gN_pR, gX_pI, gX_pJ, gX_pR, gS_pI, gS_pJ, gS_pR, gK_cpI, gN_cpI, gK_cpJ, gN_cpJ, gR_cpI, gR_cpJ, gJ_cpI, gI_cpJ]
  have q2 : Fr (fun x j => x = o ∧ (j = 15 ∨ j = 16)) h (pI (pI h o 15 (nI b)) o 16 (nI t)) := (Fr.rf.pI ⟨rfl, Or.inl rfl⟩).pI ⟨rfl, Or.inr rfl⟩
  have g15 : gI (pI (pI h o 15 (nI b)) o 16 (nI t)) o 15 = nI b := by rw [gI_ne (by omega), gI_at]
  have g16 : gI (pI (pI h o 15 (nI b)) o 16 (nI t)) o 16 = nI t := gI_at _ _ _ _
  refine c43 (π := pG b t) ⟨⟨t1, t2, t3, t4, t5.fi ((FI.rf (F := fun x j => x = o ∧ (j = 15 ∨ j = 16))).pI ⟨rfl, Or.inl rfl⟩ |>.pI ⟨rfl, Or.inr rfl⟩), t6, t7⟩, SV.fr t5 hV hO q2 (fun u j z => by omega), hS, ⟨(q2.i (fun z => by omega)).trans hT.1, fun so t d q1 q3 q4 => (q2.i (fun z => by omega)).trans (hT.2 so t d q1 q3 q4)⟩, ⟨g15, fun q hq => by cases hq; exact g16⟩⟩ hO (pG_ok hO hb ht) (pG_cl b t) (fun h3 q3 hP3 hD3 => ?_)
  show V 46 13 _ (pu (some _) []) h3 K
  simp only [pu_s, v46_13]
  exact kk h3 ((q2.mo (fun x j z => by unfold TW; omega)).tr (q3.mo OW.t)) hP3 hD3
end
