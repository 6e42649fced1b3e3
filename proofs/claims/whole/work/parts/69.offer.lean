/-! OFFERS: the gain with an offer, and both sides -/
def pO (p t v : Nat) : PR := (7, none, some (p, t, v), none)
theorem pO_ok {s : SG} {p t v : Nat} (hO : SOk s) (hb : p < sM s) (ht : t < sN s) (hv : v ≤ 99) : POk s (pO p t v) := ⟨Nat.le_refl _, fun q h => (by cases h), fun q h => (by cases h; exact ⟨Nat.lt_of_lt_of_le hb hO.2.1, ht, hv⟩), fun q h => (by cases h)⟩
theorem offQ_O {p t v b : Nat} (hb : b ≠ p) : offQ (pO p t v) b = none := if_neg (fun z => hb z.symm)
theorem offQ_P (p t v : Nat) : offQ (pO p t v) p = some (t, v) := if_pos rfl
theorem moS_O {s : SG} {M : MS} {p t v b : Nat} (hb : b ≠ p) : moS s (pO p t v) M b = moS s p0 M b := by
  have htk : tkN s (pO p t v) M b = tkN s p0 M b := by
    unfold tkN
    rw [offQ_O hb]
    rfl
  have hpd : ∀ u, pdN s (pO p t v) b u = pdN s p0 b u := fun u => by
    unfold pdN
    rw [offQ_O hb]
    rfl
  have hco : coN s (pO p t v) M b = coN s p0 M b := rfl
  unfold moS
  rw [hco, htk]
  unfold moT
  cases tkN s p0 M b with
  | none => rfl
  | some u =>
    dsimp only
    rw [hpd]
theorem mo_O (s : SG) (p t v : Nat) : ∀ b : Nat, b ≤ p → mo s (pO p t v) b = mo s p0 b
  | 0, _ => rfl
  | b + 1, hb => by
    show moS s (pO p t v) (mo s (pO p t v) b) b = moS s p0 (mo s p0 b) b
    rw [mo_O s p t v b (by omega), moS_O (by omega)]
theorem moS_cC {s : SG} {π : PR} {M : MS} {b : Nat} : mC (moS s π M b) b = coN s π M b := by
  unfold moS
  by_cases c : coN s π M b = true
  · rw [if_pos c, c]
    unfold moT
    split
    · exact up_at _ _ _
    · exact up_at _ _ _
  · have c' : coN s π M b = false := by simpa using c
    rw [if_neg c, c']
    exact up_at (mC M) b false
theorem moS_mC {s : SG} {π : PR} {M : MS} {b u : Nat} (hu : u ≠ b) : mC (moS s π M b) u = mC M u := by
  unfold moS
  split
  · unfold moT
    split
    · exact up_ne hu
    · exact up_ne hu
  · exact up_ne (f := mC M) hu
theorem mo_stC {s : SG} {π : PR} {u : Nat} : ∀ j : Nat, mC (mo s π (u + 1 + j)) u = coN s π (mo s π u) u
  | 0 => moS_cC
  | j + 1 => by
    show mC (moS s π (mo s π (u + 1 + j)) (u + 1 + j)) u = _
    rw [moS_mC (by omega)]
    exact mo_stC j
/-- two mornings with another sum alone -/
def Rmo (v : Nat) (M M' : MS) : Prop := mS M = mS M' ∧ mC M = mC M' ∧ mB M = mB M' ∧ mK M = mK M' + v
theorem moS_R {s : SG} {v b : Nat} {M M' : MS} (hR : Rmo v M M') : Rmo v (moS s p0 M b) (moS s p0 M' b) := by
  obtain ⟨r1, r2, r3, r4⟩ := hR
  have hfr : frN s M b = frN s M' b := by unfold frN; rw [r2, r3]
  have hco : coN s p0 M b = coN s p0 M' b := by unfold coN; rw [hfr]
  have htk : tkN s p0 M b = tkN s p0 M' b := by
    unfold tkN
    rw [r1]
  unfold moS
  rw [hco, htk]
  by_cases c : coN s p0 M' b = true
  · rw [if_pos c, if_pos c]
    unfold moT
    cases tkN s p0 M' b with
    | none => exact ⟨r1, by show up _ _ _ = up _ _ _; rw [r2], by show up _ _ _ = up _ _ _; rw [r3], r4⟩
    | some u => exact ⟨by show up _ _ _ = up _ _ _; rw [r1], by show up _ _ _ = up _ _ _; rw [r2], by show up _ _ _ = up _ _ _; rw [r3], by show mK M + _ = mK M' + _ + v; omega⟩
  · rw [if_neg c, if_neg c]
    exact ⟨r1, by show up _ _ _ = up _ _ _; rw [r2], by show up _ _ _ = up _ _ _; rw [r3], r4⟩
theorem mo_R {s : SG} {p t v : Nat} (hc : coN s p0 (mo s p0 p) p = true) : ∀ j : Nat, Rmo v (mo s (pO p t v) (p + 1 + j)) (mo s (pO p t 0) (p + 1 + j))
  | 0 => by
    show Rmo v (moS s (pO p t v) (mo s (pO p t v) p) p) (moS s (pO p t 0) (mo s (pO p t 0) p) p)
    rw [mo_O s p t v p (Nat.le_refl _), mo_O s p t 0 p (Nat.le_refl _)]
    have h1 : ∀ w, coN s (pO p t w) (mo s p0 p) p = true := fun w => hc
    have h2 : ∀ w, tkN s (pO p t w) (mo s p0 p) p = some t := fun w => by unfold tkN; rw [offQ_P]
    have h3 : ∀ w, pdN s (pO p t w) p t = w := fun w => by unfold pdN; rw [offQ_P]
    unfold moS
    rw [if_pos (h1 v), if_pos (h1 0), h2, h2]
    refine ⟨rfl, rfl, rfl, ?_⟩
    show mK (mo s p0 p) + pdN s (pO p t v) p t = mK (mo s p0 p) + pdN s (pO p t 0) p t + v
    rw [h3, h3]
    omega
  | j + 1 => by
    show Rmo v (moS s (pO p t v) (mo s (pO p t v) (p + 1 + j)) (p + 1 + j)) (moS s (pO p t 0) (mo s (pO p t 0) (p + 1 + j)) (p + 1 + j))
    rw [moS_O (by omega), moS_O (by omega)]
    exact moS_R (mo_R hc j)
theorem gaN_O {s : SG} {p t v : Nat} (hp : p < sM s) (hc : coN s p0 (mo s p0 p) p = true) : gaN s (pO p t v) = gaN s (pO p t 0) + v := by
  have h := mo_R (t := t) (v := v) hc (sM s - (p + 1))
  rw [show p + 1 + (sM s - (p + 1)) = sM s by omega] at h
  obtain ⟨r1, r2, r3, r4⟩ := h
  unfold gaN hoN
  rw [r1, r4]
  omega
theorem gaN_b {s : SG} {π : PR} (hO : SOk s) (hp : POk s π) : -648 ≤ gaN s π ∧ gaN s π ≤ 2376 := by
  have h1 := hoN_le (π := π) hO
  have h2 := mo_le hO hp (sM s)
  have h3 := hO.2.1
  unfold gaN
  omega
def lsN (A : XA) (p t : Nat) : Nat := (gaN (aS A) p0 - gaN (aS A) (pO p t 0) + 1).toNat
def chI (A : XA) (p t : Nat) : Bool := mC (mN A) p && onN (aS A) (mS (mo (aS A) p0 p)) (sB (aS A) p 0) t
theorem chI_co {A : XA} {p t : Nat} (hp : p < sM (aS A)) (h : chI A p t = true) : coN (aS A) p0 (mo (aS A) p0 p) p = true := by
  unfold chI at h
  simp only [Bool.and_eq_true] at h
  have e := mo_stC (s := aS A) (π := p0) (u := p) (sM (aS A) - (p + 1))
  rw [show p + 1 + (sM (aS A) - (p + 1)) = sM (aS A) by omega] at e
  rw [← e]
  exact h.1
theorem gaI_lt {s : SG} {π π' : PR} (hO : SOk s) (hp : POk s π) (hp' : POk s π') : (gaI s π < gaI s π') = (gaN s π < gaN s π') := by
  rw [← gaI_toInt hO hp, ← gaI_toInt hO hp']
  exact propext Int32.lt_iff_toInt_lt
/-- an offer is worth taking just from lsN on -/
theorem off_w {A : XA} (hW : WF A) {p t v : Nat} (hp : p < sM (aS A)) (ht : t < sN (aS A)) (hv : v ≤ 99) (h : chI A p t = true) : (gaI (aS A) p0 < gaI (aS A) (pO p t v)) = (lsN A p t ≤ v) := by
  rw [gaI_lt hW.1 (p0_ok _) (pO_ok hW.1 hp ht hv), gaN_O hp (chI_co hp h)]
  unfold lsN
  apply propext
  omega
theorem ls_I {A : XA} (hW : WF A) {p t : Nat} (hp : p < sM (aS A)) (ht : t < sN (aS A)) : (if (0 : Int32) < gaI (aS A) p0 - gaI (aS A) (pO p t 0) + 1 then gaI (aS A) p0 - gaI (aS A) (pO p t 0) + 1 else 0) = nI (lsN A p t) ∧ lsN A p t ≤ 3100 := by
  have b1 := gaN_b hW.1 (p0_ok (aS A))
  have b2 := gaN_b hW.1 (pO_ok (v := 0) hW.1 hp ht (Nat.zero_le _))
  have e1 := gaI_toInt hW.1 (p0_ok (aS A))
  have e2 := gaI_toInt hW.1 (pO_ok (v := 0) hW.1 hp ht (Nat.zero_le _))
  have e3 : (gaI (aS A) p0 - gaI (aS A) (pO p t 0) + 1).toInt = gaN (aS A) p0 - gaN (aS A) (pO p t 0) + 1 := by
    rw [Int32.toInt_add, Int32.toInt_sub, e1, e2, show (1 : Int32).toInt = 1 from rfl]
    simp only [Int.bmod]
    split <;> split <;> omega
  have hl : lsN A p t ≤ 3100 := by unfold lsN; omega
  refine ⟨?_, hl⟩
  apply Int32.toInt_inj.mp
  rw [nI_toInt (by omega)]
  have c : (0 : Int32) < gaI (aS A) p0 - gaI (aS A) (pO p t 0) + 1 ↔ 0 < gaN (aS A) p0 - gaN (aS A) (pO p t 0) + 1 := by
    rw [Int32.lt_iff_toInt_lt, e3]
    rfl
  by_cases g : (0 : Int32) < gaI (aS A) p0 - gaI (aS A) (pO p t 0) + 1
  · rw [if_pos g, e3]
    have := c.mp g
    unfold lsN
    omega
  · rw [if_neg g]
    have : ¬ (0 < gaN (aS A) p0 - gaN (aS A) (pO p t 0) + 1) := fun z => g (c.mpr z)
    show (0 : Int) = _
    unfold lsN
    omega
def oOff (A : XA) (p t v : Int32) : XA × Int32 := match rgI 0 99 v with
  | none => rfI A 0 (-2)
  | some v => match thI (sM (aS A)) p with
    | none => rfI A 0 (-2)
    | some p => match thI (sN (aS A)) t with
      | none => rfI A 0 (-2)
      | some t => if chI A p t = true then (A, if lsN A p t ≤ v then 1 else 0) else rfI A 3 (-5)
def oLst (A : XA) (p t : Int32) : XA × Int32 := match thI (sM (aS A)) p with
  | none => rfI A 0 (-2)
  | some p => match thI (sN (aS A)) t with
    | none => rfI A 0 (-2)
    | some t => if chI A p t = true then (A, if lsN A p t ≤ 99 then nI (lsN A p t) else -1) else rfI A 3 (-5)
section
variable {b m : Nat} {u : LU} {A : XA} {h h1 : Hp} {K : Option Value → Hp → Prop}
theorem k117_b (hC : CL b A h) (hW : WF A) {p t : Int32} (hn : thI (sM (aS A)) p = none ∨ thI (sN (aS A)) t = none) : AM 117 [.ref b, .int p, .int t] h K = K (some (.int (-2))) h := by
  obtain ⟨⟨cn, kb, f0, f1, f3, f4, f5, f6⟩, hST, hKP, hTR, hTA, ⟨s1, s2, s3⟩, hRF⟩ := id hC
  cases h0 : thI (sM (aS A)) p with
  | none => simp only [e117, v117_0, v117_1, v117_2, v117_5, v117_16, v117_18, kb, f0, f1, f3, f4, f5, f6, vrf_s, true_and, true_or, or_true, and_self, not_false_eq_true, pu_s, pu_n, z2_e0, z2_n0, z2_t, z2_f, k112 hC hW, h0, Option.isSome_none, reduceIte]
  | some x =>
    cases h1 : thI (sN (aS A)) t with
    | none => simp only [e117, v117_0, v117_1, v117_2, v117_5, v117_8, v117_9, v117_10, v117_13, v117_16, v117_18, kb, f0, f1, f3, f4, f5, f6, vrf_s, true_and, true_or, or_true, and_self, not_false_eq_true, pu_s, pu_n, z2_e0, z2_n0, z2_t, z2_f, k112 hC hW, k111 hC hW, h0, h1, Option.isSome_none, Option.isSome_some, i10, reduceIte, not_true_eq_false]
    | some y =>
      rw [h0, h1] at hn
      rcases hn with z | z <;> cases z
theorem k117 (hC : CL b A h) (hW : WF A) {p t : Nat} (hp : p < sM (aS A)) (ht : t < sN (aS A)) (kk : ∀ h2, Fr (CW b) h h2 → CL b A h2 → K (some (.int (if chI A p t = true then 0 else -5))) h2) : AM 117 [.ref b, .int (nI p), .int (nI t)] h K := by
  obtain ⟨⟨cn, kb, f0, f1, f3, f4, f5, f6⟩, hST, hKP, hTR, hTA, ⟨s1, s2, s3⟩, hRF⟩ := id hC
  have hm := hW.1.2.1
  have hn8 := hW.1.1
  have tp := thI_k hp (show sM (aS A) ≤ 1000000 by omega)
  have tt := thI_k ht (show sN (aS A) ≤ 1000000 by omega)
  simp only [e117, v117_0, v117_1, v117_2, v117_5, v117_8, v117_9, v117_10, v117_13, v117_19, v117_20, kb, f0, f1, f3, f4, f5, f6, vrf_s, true_and, true_or, or_true, and_self, not_false_eq_true, pu_s, pu_n, z2_e0, z2_n0, z2_t, z2_f, k112 hC hW, k111 hC hW, tp, tt, Option.isSome_some, i10, reduceIte]
  refine k120 hC hW (fun h2 ρ β q2 hC2 hP2 hG2 => ?_)
  obtain ⟨w1, w2, w3, w4, w5, w6, w7, w8, w9, w10, w11, w12, w13, w14, w15, w16, w17, w18, w19, w20⟩ := id hP2.2.2.1
  have f := kk h2 q2 hC2
  have c1 : (nI p).toNatClampNeg = p := nIc (by omega)
  have i1 : inb (nI p) 24 = True := nIb (by omega) (by omega)
  have eo := hG2.1.2.2.1 p hp
  have bi : bitI (nI (onS (aS A) p0 p)) (nI t) = onN (aS A) (mS (mo (aS A) p0 p)) (sB (aS A) p 0) t := by
    rw [bitI_N _ t (by omega)]
    unfold onS
    rw [msk_t, decide_eq_true ht, Bool.true_and]
  have c5' := fun (K : Option Value → Hp → Prop) => c5 (K := K) hP2 hW.1 hG2 hp
  unfold chI at f
  change K (some (.int (if (mC (mo (aS A) p0 (sM (aS A))) p && onN (aS A) (mS (mo (aS A) p0 p)) (sB (aS A) p 0) t) = true then 0 else -5))) h2 at f
  cases hc : mC (mo (aS A) p0 (sM (aS A))) p with
  | false =>
    rw [hc] at f c5'
    simp only [pu_s, v117_23, v117_24, v117_25, v117_26, v117_29, v117_49, v117_51, w1, c5', z2_f, reduceIte, true_and]
    exact f
  | true =>
    rw [hc] at f c5'
    cases ho : onN (aS A) (mS (mo (aS A) p0 p)) (sB (aS A) p 0) t with
    | false =>
      rw [ho] at f bi
      simp only [pu_s, v117_23, v117_24, v117_25, v117_26, v117_29, v117_32, v117_33, v117_36, v117_37, v117_38, v117_39, v117_42, v117_49, v117_51, w1, w4, w11, w17, vrf_s, c5', z2_t, z2_f, i10, c1, i1, eo, c127, bi, reduceIte, true_and, true_or, and_self]
      exact f
    | true =>
      rw [ho] at f bi
      simp only [pu_s, v117_23, v117_24, v117_25, v117_26, v117_29, v117_32, v117_33, v117_36, v117_37, v117_38, v117_39, v117_42, v117_45, v117_46, v117_51, w1, w4, w11, w17, vrf_s, c5', z2_t, i10, c1, i1, eo, c127, bi, reduceIte, true_and, true_or, and_self]
      exact f
theorem k118 (hC : CL b A h) (hW : WF A) {p t : Nat} (hp : p < sM (aS A)) (ht : t < sN (aS A)) (kk : ∀ h2, Fr (CW b) h h2 → CL b A h2 → K (some (.int (nI (lsN A p t)))) h2) : AM 118 [.ref b, .int (nI p), .int (nI t)] h K := by
  obtain ⟨⟨cn, kb, f0, f1, f3, f4, f5, f6⟩, ⟨ρ, β, hQ, hV, hO, -⟩, -, ⟨ρ', β', hT⟩, -⟩ := id hC
  have k5 : gK h (b + 73) = 5 := hT.1
  simp only [e118, v118_0, v118_1, v118_4, v118_5, v118_8, kb, f0, f1, f3, f4, f5, f6, vrf_s, true_and, true_or, or_true, and_self, not_false_eq_true, pu_s, pu_n, z2_e0, z2_n0, z2_t, z2_f, k5]
  refine c44 cn (by omega) hT (by omega) hQ hV hO (fun h2 q2 hP2 hG2 => ?_)
  have hC2 := hC.ut hW q2 TWc ⟨ρ', β', hP2.1⟩
  obtain ⟨⟨cn2, kb2, -, -, g3, -⟩, -⟩ := id hC2
  have k52 := hP2.1.1
  simp only [pu_s, v118_11, v118_12, v118_13, v118_16, v118_17, v118_18, kb2, g3, vrf_s, k52, true_and]
  refine c46 hP2 hO hp ht (fun h3 q3 hP3 hG3 => ?_)
  have l := (ls_I hW hp ht).1
  have e : pG p t = pO p t 0 := rfl
  rw [e]
  simp only [pu_s, v118_21, v118_23, v118_24, v118_25, v118_27, v118_28, v118_29, v118_30, v118_33, l]
  exact kk h3 ((q2.tr q3).mo TWw) (hC.ut hW (q2.tr q3) TWc ⟨ρ', β', hP3.1⟩)
theorem m5n : ((-5 : Int32) = 0) = False := eq_false (by decide)
theorem m2n : ((-2 : Int32) = 0) = False := eq_false (by decide)
theorem k87 (hC : CL b A h) (hW : WF A) (p t v : Int32) (kk : ∀ h2, Fr (CW b) h h2 → CL b (oOff A p t v).1 h2 → K (some (.int (oOff A p t v).2)) h2) : AM 87 [.ref b, .int p, .int t, .int v] h K := by
  obtain ⟨⟨cn, kb, f0, f1, f3, f4, f5, f6⟩, hST, hKP, hTR, hTA, ⟨s1, s2, s3⟩, hRF⟩ := id hC
  unfold oOff at kk
  cases hv : rgI 0 99 v with
  | none =>
    rw [hv] at kk
    simp only [e87, v87_0, v87_1, v87_2, v87_4, v87_7, v87_10, v87_11, v87_13, kb, f0, f1, f3, f4, f5, f6, vrf_s, true_and, true_or, or_true, and_self, not_false_eq_true, pu_s, pu_n, z2_e0, z2_n0, z2_t, z2_f, c123, ri_0_7, ri_0_4, ri_0_40, ri_0_5, ri_1_99, ri_1_9, ri_0_99, ri_0_9, ri_0_6, ri_0_3, ri_0_255, ri_1_24, ri_3_39, ri_0_1, ri_0_8, ri_0_2, ri_1_30, ri_0_14, ri_12_16, hv, Option.isSome_none, reduceIte]
    exact k108 (w := 0) hC hW (by decide) (by decide) (fun h2 q2 hC2 => by simp only [pu_s, v87_16]; exact kk h2 q2 hC2)
  | some v' =>
    rw [hv] at kk
    obtain ⟨rfl, -, hv9⟩ := rgI_s (by decide) (by decide) hv
    have bad : (∀ h2, Fr (CW b) h h2 → CL b (rfu A 0) h2 → K (some (.int (-2))) h2) → (thI (sM (aS A)) p = none ∨ thI (sN (aS A)) t = none) → AM 87 [.ref b, .int p, .int t, .int (nI v')] h K := fun k2 hn => by
      simp only [e87, v87_0, v87_1, v87_2, v87_4, v87_7, v87_17, v87_18, v87_19, v87_20, v87_23, v87_25, v87_27, v87_30, v87_31, v87_33, kb, f0, f1, f3, f4, f5, f6, vrf_s, true_and, true_or, or_true, and_self, not_false_eq_true, pu_s, pu_n, z2_e0, z2_n0, z2_t, z2_f, c123, ri_0_7, ri_0_4, ri_0_40, ri_0_5, ri_1_99, ri_1_9, ri_0_99, ri_0_9, ri_0_6, ri_0_3, ri_0_255, ri_1_24, ri_3_39, ri_0_1, ri_0_8, ri_0_2, ri_1_30, ri_0_14, ri_12_16, hv, Option.isSome_some, i10, reduceIte, k117_b hC hW hn, m2n]
      exact k108 (w := 0) hC hW (by decide) (by decide) (fun h2 q2 hC2 => by simp only [pu_s, v87_36]; exact k2 h2 q2 hC2)
    cases h0 : thI (sM (aS A)) p with
    | none => rw [h0] at kk; exact bad kk (Or.inl h0)
    | some p' =>
      rw [h0] at kk
      cases h1 : thI (sN (aS A)) t with
      | none => rw [h1] at kk; exact bad kk (Or.inr h1)
      | some t' =>
        rw [h1] at kk
        dsimp only at kk
        have hm := hW.1.2.1
        have hn8 := hW.1.1
        obtain ⟨rfl, hp⟩ := thI_s (by omega) h0
        obtain ⟨rfl, ht⟩ := thI_s (by omega) h1
        simp only [e87, v87_0, v87_1, v87_2, v87_4, v87_7, v87_17, v87_18, v87_19, v87_20, kb, f0, f1, f3, f4, f5, f6, vrf_s, true_and, true_or, or_true, and_self, not_false_eq_true, pu_s, pu_n, z2_e0, z2_n0, z2_t, z2_f, c123, ri_0_7, ri_0_4, ri_0_40, ri_0_5, ri_1_99, ri_1_9, ri_0_99, ri_0_9, ri_0_6, ri_0_3, ri_0_255, ri_1_24, ri_3_39, ri_0_1, ri_0_8, ri_0_2, ri_1_30, ri_0_14, ri_12_16, hv, Option.isSome_some, i10, reduceIte]
        refine k117 hC hW hp ht (fun h2 q2 hC2 => ?_)
        obtain ⟨⟨cn2, kb2, -⟩, -⟩ := id hC2
        by_cases g : chI A p' t' = true
        · rw [if_pos g] at kk ⊢
          simp only [pu_s, v87_23, v87_25, v87_27, v87_37, v87_38, v87_39, v87_40, kb2, reduceIte, true_and]
          refine k118 hC2 hW hp ht (fun h3 q3 hC3 => ?_)
          have f := kk h3 (q2.tr q3) hC3
          have lb := (ls_I hW hp ht).2
          have le : (nI v' < nI (lsN A p' t')) = (v' < lsN A p' t') := nltN (by omega) (by omega)
          by_cases g2 : lsN A p' t' ≤ v'
          · rw [if_pos g2] at f
            have g3 : (v' < lsN A p' t') = False := eq_false (by omega)
            rw [g3] at le
            simp only [pu_s, v87_43, v87_44, v87_47, v87_48, v87_52, le, reduceIte]
            exact f
          · rw [if_neg g2] at f
            have g3 : (v' < lsN A p' t') = True := eq_true (by omega)
            rw [g3] at le
            simp only [pu_s, v87_43, v87_44, v87_51, v87_52, le, reduceIte]
            exact f
        · rw [if_neg g] at kk ⊢
          simp only [pu_s, v87_23, v87_25, v87_27, v87_30, v87_31, v87_33, kb2, m5n, reduceIte, true_and]
          exact k108 (w := 3) hC2 hW (by decide) (by decide) (fun h3 q3 hC3 => by simp only [pu_s, v87_36]; exact kk h3 (q2.tr q3) hC3)
theorem k88 (hC : CL b A h) (hW : WF A) (p t : Int32) (kk : ∀ h2, Fr (CW b) h h2 → CL b (oLst A p t).1 h2 → K (some (.int (oLst A p t).2)) h2) : AM 88 [.ref b, .int p, .int t] h K := by
  obtain ⟨⟨cn, kb, f0, f1, f3, f4, f5, f6⟩, hST, hKP, hTR, hTA, ⟨s1, s2, s3⟩, hRF⟩ := id hC
  unfold oLst at kk
  have bad : (∀ h2, Fr (CW b) h h2 → CL b (rfu A 0) h2 → K (some (.int (-2))) h2) → (thI (sM (aS A)) p = none ∨ thI (sN (aS A)) t = none) → AM 88 [.ref b, .int p, .int t] h K := fun k2 hn => by
    simp only [e88, v88_0, v88_1, v88_2, v88_3, v88_6, v88_7, v88_8, v88_11, v88_12, v88_13, kb, f0, f1, f3, f4, f5, f6, vrf_s, true_and, true_or, or_true, and_self, not_false_eq_true, pu_s, pu_n, z2_e0, z2_n0, z2_t, z2_f, k117_b hC hW hn, m2n, reduceIte]
    exact k108 (w := 0) hC hW (by decide) (by decide) (fun h2 q2 hC2 => by simp only [pu_s, v88_16]; exact k2 h2 q2 hC2)
  cases h0 : thI (sM (aS A)) p with
  | none => rw [h0] at kk; exact bad kk (Or.inl h0)
  | some p' =>
    rw [h0] at kk
    cases h1 : thI (sN (aS A)) t with
    | none => rw [h1] at kk; exact bad kk (Or.inr h1)
    | some t' =>
      rw [h1] at kk
      dsimp only at kk
      have hm := hW.1.2.1
      have hn8 := hW.1.1
      obtain ⟨rfl, hp⟩ := thI_s (by omega) h0
      obtain ⟨rfl, ht⟩ := thI_s (by omega) h1
      simp only [e88, v88_0, v88_1, v88_2, v88_3, kb, f0, f1, f3, f4, f5, f6, vrf_s, true_and, true_or, or_true, and_self, not_false_eq_true, pu_s, pu_n, z2_e0, z2_n0, z2_t, z2_f]
      refine k117 hC hW hp ht (fun h2 q2 hC2 => ?_)
      obtain ⟨⟨cn2, kb2, -⟩, -⟩ := id hC2
      by_cases g : chI A p' t' = true
      · rw [if_pos g] at kk ⊢
        simp only [pu_s, v88_6, v88_7, v88_8, v88_17, v88_18, v88_19, v88_20, kb2, reduceIte, true_and]
        refine k118 hC2 hW hp ht (fun h3 q3 hC3 => ?_)
        have f := kk h3 (q2.tr q3) hC3
        have lb := (ls_I hW hp ht).2
        have le : (99 < nI (lsN A p' t')) = (99 < lsN A p' t') := nltN (a := 99) (by decide) (by omega)
        by_cases g2 : lsN A p' t' ≤ 99
        · rw [if_pos g2] at f
          have g3 : (99 < lsN A p' t') = False := eq_false (by omega)
          rw [g3] at le
          simp only [pu_s, v88_23, v88_25, v88_27, v88_29, v88_32, v88_34, v88_38, le, reduceIte]
          exact f
        · rw [if_neg g2] at f
          have g3 : (99 < lsN A p' t') = True := eq_true (by omega)
          rw [g3] at le
          simp only [pu_s, v88_23, v88_25, v88_27, v88_29, v88_37, v88_38, le, reduceIte]
          exact f
      · rw [if_neg g] at kk ⊢
        simp only [pu_s, v88_6, v88_7, v88_8, v88_11, v88_12, v88_13, kb2, m5n, reduceIte, true_and]
        exact k108 (w := 3) hC2 hW (by decide) (by decide) (fun h3 q3 hC3 => by simp only [pu_s, v88_16]; exact kk h3 (q2.tr q3) hC3)
/-- the reference's couldHave -/
theorem k205 (hR : MR m u A h) (hW : WF A) {p t : Nat} (hp : p < sM (aS A)) (ht : t < sN (aS A)) (kk : ∀ h2, Fr (DW m) h h2 → K (some (.int (z2 (chI A p t)))) h2) : AM 205 [.ref m, .int (nI p), .int (nI t)] h K := by
  obtain ⟨r0, hM, hpp, hP, hQ, hS, hT, hF, hL⟩ := id hR
  have hm := hW.1.2.1
  have hn8 := hW.1.1
  have c1 : (nI p).toNatClampNeg = p := nIc (by omega)
  have i1 : inb (nI p) 24 = True := nIb (by omega) (by omega)
  have c2 : (nI t).toNatClampNeg = t := nIc (by omega)
  have i2 : inb (nI t) 8 = True := nIb (by omega) (by omega)
  have g0 := (hW.1.2.2.2.1 p hp).1
  simp only [e205, v205_0, v205_1, v205_2, v205_5, hM.k0, hP.2.1, true_and]
  refine c186 hM hP hW.1 (p0_ok _) hpp (Nat.le_refl _) (fun h2 q2 hD => ?_)
  have hM2 := hM.dw q2
  have ee := (hD.2.2 p hp).1
  unfold chI at kk
  change ∀ h2, Fr (DW m) h h2 → K (some (.int (z2 (mC (mo (aS A) p0 (sM (aS A))) p && onN (aS A) (mS (mo (aS A) p0 p)) (sB (aS A) p 0) t)))) h2 at kk
  cases hc : mC (mo (aS A) p0 (sM (aS A))) p with
  | false =>
    rw [hc] at kk ee
    simp only [pu_n, v205_8, v205_9, v205_12, v205_13, v205_14, v205_17, v205_18, hM2.k0, hM2.f36, hM2.k55, hM2.n55, vrf_s, c1, i1, ee, z2_f, not_true_eq_false, reduceIte, true_and, true_or, and_self, bo_0]
    exact kk h2 q2
  | true =>
    rw [hc] at kk ee
    rw [Bool.true_and] at kk
    simp only [pu_n, v205_8, v205_9, v205_12, v205_13, v205_14, v205_19, v205_20, v205_21, hM2.k0, hM2.f36, hM2.k55, hM2.n55, vrf_s, c1, i1, ee, z2_t, i10, not_false_eq_true, reduceIte, true_and, true_or, and_self]
    refine c186 hM2 (hP.dw hW.1 q2) hW.1 (p0_ok _) (hpp.dw q2) (Nat.le_of_lt hp) (fun h3 q3 hD3 => ?_)
    have q23 := q2.tr q3
    have hM3 := hM.dw q23
    have hP3 := hP.dw hW.1 q23
    obtain ⟨w1, w2, w3⟩ := hM3.by (show p < 24 by omega)
    have f0 := hP3.b hp (k := 0) (by omega)
    simp only [pu_n, v205_24, v205_25, v205_26, v205_29, v205_30, v205_31, v205_32, v205_33, hM3.k0, hM3.f12, hM3.k26, hM3.n26, vrf_s, w1, w2, w3, c1, i1, ib7_0, ib7_1, ib7_2, ib7_3, ib7_4, ib7_5, ib7_6, ib3_0, ib3_1, ib3_2, ib4_0, ib4_1, ib4_2, ib4_3, tc0, tc1, tc2, tc3, tc4, tc5, tc6, f0, true_and, true_or, or_true, and_self]
    refine c178 hM3 hP3 hW.1 hD3.1 g0 (fun h4 q4 hon => ?_)
    have q4' : Fr (DW m) h3 h4 := q4.mo (fun a j z => Or.inl ⟨by omega, by omega⟩)
    have hM4 := hM3.dw q4'
    simp only [pu_s, v205_36, v205_37, v205_38, v205_41, v205_42, v205_43, hM4.k0, hM4.f28, hM4.k54, hM4.n54, vrf_s, c2, i2, hon t ht, bo_z2, true_and, true_or, and_self]
    exact kk h4 (q23.tr q4')
def OFW (m a j : Nat) : Prop := DW m a j ∨ (a = m ∧ 32 ≤ j ∧ j ≤ 34)
theorem k206 (hR : MR m u A h) (hW : WF A) {p t v : Nat} (hp : p < sM (aS A)) (ht : t < sN (aS A)) (hv : v ≤ 99) (kk : ∀ h2, Fr (OFW m) h h2 → MR m u A h2 → K (some (.int (gaI (aS A) (pO p t v)))) h2) : AM 206 [.ref m, .int (nI p), .int (nI t), .int (nI v)] h K := by
  obtain ⟨r0, hM, hpp, hP, hQ, hS, hT, hF, hL⟩ := id hR
  obtain ⟨p1, ⟨p2, p3⟩, p4, p5, p6⟩ := hpp
  simp only [e206, v206_0, v206_1, v206_2, v206_5, v206_6, v206_7, v206_10, v206_11, v206_12, v206_15, v206_16, hM.k0, gI_pJ, gI_pR, gJ_pI, gJ_pR, gR_pI, gR_pJ, gK_pI, gK_pJ, gK_pR, gN_pI, gN_pJ, gN_pR, gX_pI, gX_pJ, gX_pR, gS_pI, gS_pJ, gS_pR, gK_cpI, gN_cpI, gK_cpJ, gN_cpJ, gR_cpI, gR_cpJ, gJ_cpI, gI_cpJ, true_and]
  have q1 : Fr (OFW m) h (pI (pI (pI h m 32 (nI p)) m 33 (nI t)) m 34 (nI v)) := ((Fr.rf.pI (Or.inr ⟨rfl, by omega, by omega⟩)).pI (Or.inr ⟨rfl, by omega, by omega⟩)).pI (Or.inr ⟨rfl, by omega, by omega⟩)
  have hy : ∀ a j, OFW m a j → MY m a j := fun a j z => by unfold OFW DW at z; unfold MY; omega
  have hM1 := hM.my q1 hy
  have hP1 : MP m (aS A) (pI (pI (pI h m 32 (nI p)) m 33 (nI t)) m 34 (nI v)) := hP.fr hW.1 q1 (fun a j z => by unfold OFW DW at z; exact ⟨fun y => by omega, fun y => by omega, fun y => by omega⟩)
  have n : ∀ j, (j < 32 ∨ 34 < j) → gI (pI (pI (pI h m 32 (nI p)) m 33 (nI t)) m 34 (nI v)) m j = gI h m j := fun j hj => by rw [gI_ne (by omega), gI_ne (by omega), gI_ne (by omega)]
  have e32 : gI (pI (pI (pI h m 32 (nI p)) m 33 (nI t)) m 34 (nI v)) m 32 = nI p := by rw [gI_ne (by omega), gI_ne (by omega), gI_at]
  have e33 : gI (pI (pI (pI h m 32 (nI p)) m 33 (nI t)) m 34 (nI v)) m 33 = nI t := by rw [gI_ne (by omega), gI_at]
  have e34 : gI (pI (pI (pI h m 32 (nI p)) m 33 (nI t)) m 34 (nI v)) m 34 = nI v := gI_at _ _ _ _
  refine c188 (π := pO p t v) hM1 hP1 hW.1 (pO_ok hW.1 hp ht hv) ⟨(n 29 (by omega)).trans p1, ⟨(n 30 (by omega)).trans p2, fun q hq => (by cases hq)⟩, e32, fun q hq => (by cases hq; exact ⟨e33, e34⟩), (n 35 (by omega)).trans p6⟩ (fun h2 q2 hD => ?_)
  have q2' : Fr (OFW m) h h2 := q1.tr (q2.mo (fun a j z => Or.inl z))
  have k2 := (hM.my q2' hy).k0
  simp only [pu_s, v206_19, v206_21, v206_22, v206_23, v206_26, v206_28, k2, true_and]
  have q3 : Fr (OFW m) h (pI h2 m 32 (-1)) := q2'.pI (Or.inr ⟨rfl, by omega, by omega⟩)
  have n2 : ∀ j, 29 ≤ j → j ≤ 35 → (j < 32 ∨ 34 < j) → gI (pI h2 m 32 (-1)) m j = gI h m j := fun j h1 h2 hj => (q3.i (fun z => by unfold OFW DW at z; omega))
  exact kk _ q3 (hR.upd (s := aS A) (q := aQ A) hW q3 hy ⟨(n2 29 (by omega) (by omega) (by omega)).trans p1, ⟨(n2 30 (by omega) (by omega) (by omega)).trans p2, fun q hq => (by cases hq)⟩, gI_at _ _ _ _, fun q hq => (by cases hq), (n2 35 (by omega) (by omega) (by omega)).trans p6⟩ (hP.fr hW.1 q3 (fun a j z => by unfold OFW DW at z; exact ⟨fun y => by omega, fun y => by omega, fun y => by omega⟩)) (hQ.fr q3 (fun j _ _ z => by unfold OFW DW at z; omega)))
theorem OFWm : ∀ a j, OFW m a j → m ≤ a := fun a j z => by unfold OFW DW at z; omega
theorem DWm : ∀ a j, DW m a j → m ≤ a := fun a j z => by unfold DW at z; omega
theorem k207 (hR : MR m u A h) (hW : WF A) (p t v : Int32) (kk : ∀ (h2 : Hp) (u2 : LU), MG m h h2 → MR m u2 (oOff A p t v).1 h2 → K (some (.int (oOff A p t v).2)) h2) : AM 207 [.ref m, .int p, .int t, .int v] h K := by
  obtain ⟨r0, hM, hpp, hP, hQ, hS, hT, hF, hL⟩ := id hR
  unfold oOff at kk
  replace kk := fun h2 => kk h2 u
  have bad : (∀ h2, MG m h h2 → MR m u (rfu A 0) h2 → K (some (.int (-2))) h2) → (thI (sM (aS A)) p = none ∨ thI (sN (aS A)) t = none ∨ rgI 0 99 v = none) → AM 207 [.ref m, .int p, .int t, .int v] h K := fun kk hn => by
    cases h0 : thI (sM (aS A)) p with
    | none =>
      simp only [e207, v207_0, v207_1, v207_2, v207_5, v207_28, v207_29, v207_31, hM.f0, hM.f1, hM.f2, hM.f3, hM.f4, hM.f5, hM.f6, hM.f8, hM.f10, hM.f12, hM.f13, hM.f25, hM.f27, hM.f28, hM.f36, hM.f37, hM.f38, hM.f40, hM.k0, hM.k1, hM.k2, hM.k3, hM.k4, hM.k13, hM.k14, hM.k15, hM.k16, hM.k17, hM.k26, hM.k51, hM.k52, hM.k53, hM.k54, hM.k55, hM.k56, hM.k57, hM.k58, hM.n1, hM.n2, hM.n3, hM.n4, hM.n13, hM.n14, hM.n15, hM.n16, hM.n17, hM.n26, hM.n51, hM.n52, hM.n53, hM.n54, hM.n55, hM.n56, hM.n57, hM.n58, vrf_s, true_or, or_true, true_and, and_true, and_self, not_false_eq_true, pu_s, pu_n, z2_e0, z2_n0, z2_t, z2_f, k137 hR hW, h0, Option.isSome_none, reduceIte]
      exact k134 (w := 0) hR hW (by decide) (by decide) (fun h2 q2 hR2 => by simp only [pu_s, v207_34]; exact kk h2 (MG.of q2 (fun a j z => by omega)) hR2)
    | some x =>
      cases h1 : thI (sN (aS A)) t with
      | none =>
        simp only [e207, v207_0, v207_1, v207_2, v207_5, v207_8, v207_9, v207_10, v207_13, v207_28, v207_29, v207_31, hM.f0, hM.f1, hM.f2, hM.f3, hM.f4, hM.f5, hM.f6, hM.f8, hM.f10, hM.f12, hM.f13, hM.f25, hM.f27, hM.f28, hM.f36, hM.f37, hM.f38, hM.f40, hM.k0, hM.k1, hM.k2, hM.k3, hM.k4, hM.k13, hM.k14, hM.k15, hM.k16, hM.k17, hM.k26, hM.k51, hM.k52, hM.k53, hM.k54, hM.k55, hM.k56, hM.k57, hM.k58, hM.n1, hM.n2, hM.n3, hM.n4, hM.n13, hM.n14, hM.n15, hM.n16, hM.n17, hM.n26, hM.n51, hM.n52, hM.n53, hM.n54, hM.n55, hM.n56, hM.n57, hM.n58, vrf_s, true_or, or_true, true_and, and_true, and_self, not_false_eq_true, pu_s, pu_n, z2_e0, z2_n0, z2_t, z2_f, k137 hR hW, k136 hR hW, h0, h1, Option.isSome_none, Option.isSome_some, i10, reduceIte]
        exact k134 (w := 0) hR hW (by decide) (by decide) (fun h2 q2 hR2 => by simp only [pu_s, v207_34]; exact kk h2 (MG.of q2 (fun a j z => by omega)) hR2)
      | some y =>
        cases h2 : rgI 0 99 v with
        | none =>
          simp only [e207, v207_0, v207_1, v207_2, v207_5, v207_8, v207_9, v207_10, v207_13, v207_16, v207_17, v207_18, v207_19, v207_22, v207_25, v207_28, v207_29, v207_31, hM.f0, hM.f1, hM.f2, hM.f3, hM.f4, hM.f5, hM.f6, hM.f8, hM.f10, hM.f12, hM.f13, hM.f25, hM.f27, hM.f28, hM.f36, hM.f37, hM.f38, hM.f40, hM.k0, hM.k1, hM.k2, hM.k3, hM.k4, hM.k13, hM.k14, hM.k15, hM.k16, hM.k17, hM.k26, hM.k51, hM.k52, hM.k53, hM.k54, hM.k55, hM.k56, hM.k57, hM.k58, hM.n1, hM.n2, hM.n3, hM.n4, hM.n13, hM.n14, hM.n15, hM.n16, hM.n17, hM.n26, hM.n51, hM.n52, hM.n53, hM.n54, hM.n55, hM.n56, hM.n57, hM.n58, vrf_s, true_or, or_true, true_and, and_true, and_self, not_false_eq_true, pu_s, pu_n, z2_e0, z2_n0, z2_t, z2_f, k137 hR hW, k136 hR hW, h0, h1, c135, rj_0_7, rj_0_4, rj_0_40, rj_0_5, rj_1_99, rj_1_9, rj_0_99, rj_0_9, rj_0_6, rj_0_3, rj_0_255, rj_1_24, rj_3_39, rj_0_1, rj_0_8, rj_0_2, rj_1_30, rj_0_14, rj_12_16, h2, Option.isSome_none, Option.isSome_some, i10, reduceIte]
          exact k134 (w := 0) hR hW (by decide) (by decide) (fun h2 q2 hR2 => by simp only [pu_s, v207_34]; exact kk h2 (MG.of q2 (fun a j z => by omega)) hR2)
        | some z =>
          rw [h0, h1, h2] at hn
          rcases hn with z | z | z <;> cases z
  cases hv : rgI 0 99 v with
  | none => rw [hv] at kk; exact bad kk (Or.inr (Or.inr hv))
  | some v' =>
    rw [hv] at kk
    cases h0 : thI (sM (aS A)) p with
    | none => rw [h0] at kk; exact bad kk (Or.inl h0)
    | some p' =>
      rw [h0] at kk
      cases h1 : thI (sN (aS A)) t with
      | none => rw [h1] at kk; exact bad kk (Or.inr (Or.inl h1))
      | some t' =>
        rw [h1] at kk
        dsimp only at kk
        have hm := hW.1.2.1
        have hn8 := hW.1.1
        simp only [e207, v207_0, v207_1, v207_2, v207_5, v207_8, v207_9, v207_10, v207_13, v207_16, v207_17, v207_18, v207_19, v207_22, v207_25, v207_35, v207_36, v207_37, v207_38, hM.f0, hM.f1, hM.f2, hM.f3, hM.f4, hM.f5, hM.f6, hM.f8, hM.f10, hM.f12, hM.f13, hM.f25, hM.f27, hM.f28, hM.f36, hM.f37, hM.f38, hM.f40, hM.k0, hM.k1, hM.k2, hM.k3, hM.k4, hM.k13, hM.k14, hM.k15, hM.k16, hM.k17, hM.k26, hM.k51, hM.k52, hM.k53, hM.k54, hM.k55, hM.k56, hM.k57, hM.k58, hM.n1, hM.n2, hM.n3, hM.n4, hM.n13, hM.n14, hM.n15, hM.n16, hM.n17, hM.n26, hM.n51, hM.n52, hM.n53, hM.n54, hM.n55, hM.n56, hM.n57, hM.n58, vrf_s, true_or, or_true, true_and, and_true, and_self, not_false_eq_true, pu_s, pu_n, z2_e0, z2_n0, z2_t, z2_f, k137 hR hW, k136 hR hW, h0, h1, c135, rj_0_7, rj_0_4, rj_0_40, rj_0_5, rj_1_99, rj_1_9, rj_0_99, rj_0_9, rj_0_6, rj_0_3, rj_0_255, rj_1_24, rj_3_39, rj_0_1, rj_0_8, rj_0_2, rj_1_30, rj_0_14, rj_12_16, hv, Option.isSome_some, i10, reduceIte]
        obtain ⟨rfl, hp⟩ := thI_s (by omega) h0
        obtain ⟨rfl, ht⟩ := thI_s (by omega) h1
        obtain ⟨rfl, -, hv9⟩ := rgI_s (by decide) (by decide) hv
        refine k205 hR hW hp ht (fun h2 q2 => ?_)
        have hR2 := hR.sc hW q2 (fun a j z => z.z)
        have k2 := hR2.2.1.k0
        cases g : chI A p' t' with
        | false =>
          rw [if_neg (by rw [g]; decide)] at kk
          simp only [pu_s, v207_41, v207_44, v207_45, v207_47, z2_f, k2, not_true_eq_false, reduceIte, true_and]
          exact k134 (w := 3) hR2 hW (by decide) (by decide) (fun h3 q3 hR3 => by simp only [pu_s, v207_50]; exact kk h3 (MG.of (F := fun a j => m ≤ a) ((q2.mo (DWm)).tr (q3.mo (fun a j z => by omega))) (fun a j z => z)) hR3)
        | true =>
          rw [if_pos g] at kk
          simp only [pu_s, v207_41, v207_51, v207_52, v207_53, v207_54, v207_55, z2_t, i10, k2, not_false_eq_true, reduceIte, true_and]
          refine k206 hR2 hW hp ht hv9 (fun h3 q3 hR3 => ?_)
          obtain ⟨r0, hM3, hpp3, hP3, -⟩ := id hR3
          simp only [pu_s, v207_58, v207_59, hM3.k0, true_and]
          refine c188 hM3 hP3 hW.1 (p0_ok _) hpp3 (fun h4 q4 hD4 => ?_)
          have f := kk h4 (MG.of (F := fun a j => m ≤ a) (((q2.mo DWm).tr (q3.mo OFWm)).tr (q4.mo DWm)) (fun a j z => z)) (hR3.sc hW q4 (fun a j z => z.z))
          have ow := off_w hW hp ht hv9 g
          by_cases g2 : lsN A p' t' ≤ v'
          · rw [if_pos g2] at f
            have g3 : ¬ gaI (aS A) (pO p' t' v') ≤ gaI (aS A) p0 := Int32.not_le.mpr (ow ▸ g2)
            simp only [pu_s, v207_62, v207_65, v207_66, v207_70, g3, reduceIte]
            exact f
          · rw [if_neg g2] at f
            have g3 : gaI (aS A) (pO p' t' v') ≤ gaI (aS A) p0 := Int32.not_lt.mp (fun z => g2 (ow ▸ z))
            simp only [pu_s, v207_62, v207_69, v207_70, g3, reduceIte]
            exact f
theorem k208_l (hW : WF A) {p t : Nat} (hp : p < sM (aS A)) (ht : t < sN (aS A)) (g : chI A p t = true) (kk : ∀ h2, Fr (OFW m) h h2 → MR m u A h2 → K (some (.int (if lsN A p t ≤ 99 then nI (lsN A p t) else -1))) h2) :
    ∀ (j v : Nat) (h1 : Hp), v + j = 100 → v ≤ lsN A p t → Fr (OFW m) h h1 → MR m u A h1 → V 208 47 [.ref m, .int (nI p), .int (nI t), .int (gaI (aS A) p0), .int (nI v)] [] h1 K := by
  intro j
  induction j with
  | zero =>
    intro v h1 hv hvl hf hR1
    have e : v = 100 := by omega
    subst e
    have e8 : ((99 : Int32) < nI 100) = True := eq_true (by decide)
    simp only [v208_47, v208_49, v208_51, v208_75, v208_76, e8, reduceIte]
    have := kk h1 hf hR1
    rw [if_neg (by omega)] at this
    exact this
  | succ j ih =>
    intro v h1 hv hvl hf hR1
    have e8 : ((99 : Int32) < nI v) = False := eq_false (nI_nlt (a := 99) (by omega) (by decide))
    have k7 := hR1.2.1.k0
    simp only [v208_47, v208_49, v208_51, v208_54, v208_55, v208_56, v208_57, v208_59, e8, k7, reduceIte, true_and]
    refine k206 hR1 hW hp ht (show v ≤ 99 by omega) (fun h2 q2 hR2 => ?_)
    have ow := off_w hW hp ht (show v ≤ 99 by omega) g
    by_cases g2 : lsN A p t ≤ v
    · have g3 : ¬ gaI (aS A) (pO p t v) ≤ gaI (aS A) p0 := Int32.not_le.mpr (ow ▸ g2)
      simp only [pu_s, v208_62, v208_63, v208_66, v208_68, g3, reduceIte]
      have := kk h2 (hf.tr q2) hR2
      rw [if_pos (by omega), show lsN A p t = v by omega] at this
      exact this
    · have g3 : gaI (aS A) (pO p t v) ≤ gaI (aS A) p0 := Int32.not_lt.mp (fun z => g2 (ow ▸ z))
      simp only [pu_s, v208_62, v208_63, v208_69, g3, reduceIte, nI_1]
      rw [v208_72]
      exact ih (v + 1) h2 (by omega) (by omega) (hf.tr q2) hR2
theorem k208 (hR : MR m u A h) (hW : WF A) (p t : Int32) (kk : ∀ (h2 : Hp) (u2 : LU), MG m h h2 → MR m u2 (oLst A p t).1 h2 → K (some (.int (oLst A p t).2)) h2) : AM 208 [.ref m, .int p, .int t] h K := by
  obtain ⟨r0, hM, hpp, hP, hQ, hS, hT, hF, hL⟩ := id hR
  unfold oLst at kk
  replace kk := fun h2 => kk h2 u
  cases h0 : thI (sM (aS A)) p with
  | none =>
    rw [h0] at kk
    simp only [e208, v208_0, v208_1, v208_2, v208_5, v208_16, v208_17, v208_19, hM.f0, hM.f1, hM.f2, hM.f3, hM.f4, hM.f5, hM.f6, hM.f8, hM.f10, hM.f12, hM.f13, hM.f25, hM.f27, hM.f28, hM.f36, hM.f37, hM.f38, hM.f40, hM.k0, hM.k1, hM.k2, hM.k3, hM.k4, hM.k13, hM.k14, hM.k15, hM.k16, hM.k17, hM.k26, hM.k51, hM.k52, hM.k53, hM.k54, hM.k55, hM.k56, hM.k57, hM.k58, hM.n1, hM.n2, hM.n3, hM.n4, hM.n13, hM.n14, hM.n15, hM.n16, hM.n17, hM.n26, hM.n51, hM.n52, hM.n53, hM.n54, hM.n55, hM.n56, hM.n57, hM.n58, vrf_s, true_or, or_true, true_and, and_true, and_self, not_false_eq_true, pu_s, pu_n, z2_e0, z2_n0, z2_t, z2_f, k137 hR hW, h0, Option.isSome_none, reduceIte]
    exact k134 (w := 0) hR hW (by decide) (by decide) (fun h2 q2 hR2 => by simp only [pu_s, v208_22]; exact kk h2 (MG.of q2 (fun a j z => by omega)) hR2)
  | some p' =>
    rw [h0] at kk
    cases h1 : thI (sN (aS A)) t with
    | none =>
      rw [h1] at kk
      simp only [e208, v208_0, v208_1, v208_2, v208_5, v208_8, v208_9, v208_10, v208_13, v208_16, v208_17, v208_19, hM.f0, hM.f1, hM.f2, hM.f3, hM.f4, hM.f5, hM.f6, hM.f8, hM.f10, hM.f12, hM.f13, hM.f25, hM.f27, hM.f28, hM.f36, hM.f37, hM.f38, hM.f40, hM.k0, hM.k1, hM.k2, hM.k3, hM.k4, hM.k13, hM.k14, hM.k15, hM.k16, hM.k17, hM.k26, hM.k51, hM.k52, hM.k53, hM.k54, hM.k55, hM.k56, hM.k57, hM.k58, hM.n1, hM.n2, hM.n3, hM.n4, hM.n13, hM.n14, hM.n15, hM.n16, hM.n17, hM.n26, hM.n51, hM.n52, hM.n53, hM.n54, hM.n55, hM.n56, hM.n57, hM.n58, vrf_s, true_or, or_true, true_and, and_true, and_self, not_false_eq_true, pu_s, pu_n, z2_e0, z2_n0, z2_t, z2_f, k137 hR hW, k136 hR hW, h0, h1, Option.isSome_none, Option.isSome_some, i10, reduceIte]
      exact k134 (w := 0) hR hW (by decide) (by decide) (fun h2 q2 hR2 => by simp only [pu_s, v208_22]; exact kk h2 (MG.of q2 (fun a j z => by omega)) hR2)
    | some t' =>
      rw [h1] at kk
      dsimp only at kk
      have hm := hW.1.2.1
      have hn8 := hW.1.1
      simp only [e208, v208_0, v208_1, v208_2, v208_5, v208_8, v208_9, v208_10, v208_13, v208_23, v208_24, v208_25, v208_26, hM.f0, hM.f1, hM.f2, hM.f3, hM.f4, hM.f5, hM.f6, hM.f8, hM.f10, hM.f12, hM.f13, hM.f25, hM.f27, hM.f28, hM.f36, hM.f37, hM.f38, hM.f40, hM.k0, hM.k1, hM.k2, hM.k3, hM.k4, hM.k13, hM.k14, hM.k15, hM.k16, hM.k17, hM.k26, hM.k51, hM.k52, hM.k53, hM.k54, hM.k55, hM.k56, hM.k57, hM.k58, hM.n1, hM.n2, hM.n3, hM.n4, hM.n13, hM.n14, hM.n15, hM.n16, hM.n17, hM.n26, hM.n51, hM.n52, hM.n53, hM.n54, hM.n55, hM.n56, hM.n57, hM.n58, vrf_s, true_or, or_true, true_and, and_true, and_self, not_false_eq_true, pu_s, pu_n, z2_e0, z2_n0, z2_t, z2_f, k137 hR hW, k136 hR hW, h0, h1, Option.isSome_some, i10, reduceIte]
      obtain ⟨rfl, hp⟩ := thI_s (by omega) h0
      obtain ⟨rfl, ht⟩ := thI_s (by omega) h1
      refine k205 hR hW hp ht (fun h2 q2 => ?_)
      have hR2 := hR.sc hW q2 (fun a j z => z.z)
      obtain ⟨r0, hM2, hpp2, hP2, -⟩ := id hR2
      have k2 := hM2.k0
      cases g : chI A p' t' with
      | false =>
        rw [if_neg (by rw [g]; decide)] at kk
        simp only [pu_s, v208_29, v208_32, v208_33, v208_35, z2_f, k2, not_true_eq_false, reduceIte, true_and]
        exact k134 (w := 3) hR2 hW (by decide) (by decide) (fun h3 q3 hR3 => by simp only [pu_s, v208_38]; exact kk h3 (MG.of (F := fun a j => m ≤ a) ((q2.mo (DWm)).tr (q3.mo (fun a j z => by omega))) (fun a j z => z)) hR3)
      | true =>
        rw [if_pos g] at kk
        simp only [pu_s, v208_29, v208_39, v208_40, z2_t, i10, k2, not_false_eq_true, reduceIte, true_and]
        refine c188 hM2 hP2 hW.1 (p0_ok _) hpp2 (fun h3 q3 hD3 => ?_)
        simp only [pu_s, v208_43, v208_44, v208_45]
        have hR3 := hR2.sc hW q3 (fun a j z => z.z)
        refine k208_l hW hp ht g (fun h4 q4 hR4 => ?_) 100 0 h3 rfl (Nat.zero_le _) Fr.rf hR3
        exact kk h4 (MG.of (F := fun a j => m ≤ a) (((q2.mo DWm).tr (q3.mo DWm)).tr (q4.mo OFWm)) (fun a j z => z)) hR4
end
