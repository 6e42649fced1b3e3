/-! THE CLASS'S MORNING: close, goBy -/
section
variable {o a : Nat} {ρ β : Nat → Nat} {s : SG} {π : PR} {h h1 : Hp} {K : Option Value → Hp → Prop}
def OC (o : Nat) (x j : Nat) : Prop := x = o ∧ (j = 5 ∨ j = 6 ∨ j = 7)
theorem OC.w {o : Nat} : ∀ x j : Nat, OC o x j → OW o x j := fun x j z => by unfold OC at z; unfold OW; omega
theorem c12_l (ho : a + 36 ≤ o) (hS : OSh o a h) (hQ : SQ a ρ β h) (hP : SV a ρ β s h) (hO : SOk s) {sold : Nat → Bool} {tk : Nat} (h4 : gI h o 4 = nI tk) (h13 : gI h o 13 = nI (msk sold 8))
    (kk : ∀ h2, Fr (OC o) h h2 → gI h2 o 5 = nI (msk (fun t => !sold t) (sN s)) → gI h2 o 6 = nI (sA s 3 * hmN s sold (sN s)) → gI h2 o 7 = nI tk - nI (sA s 3 * hmN s sold (sN s)) → K none h2) :
    ∀ (j t : Nat) (h1 : Hp), t + j = sN s → Fr (OC o) h h1 → gI h1 o 5 = nI (msk (fun t => !sold t) t) → gI h1 o 6 = nI (sA s 3 * hmN s sold t) → V 12 12 [.ref o, .int (nI t)] [] h1 K := by
  have hn8 := hO.1
  intro j
  induction j with
  | zero =>
    intro t h1 hi hf e5 e6
    have e : t = sN s := by omega
    subst e
    have q := hf.mo (OC.w)
    obtain ⟨w1, w2, w3, w4, w5, w6, w7, w8, -⟩ := hS.ow q
    have s1 := (hQ.ow ho q).1
    have p1 := (hP.ow hQ hO ho q).1
    have e8 : (nI (sN s) ≤ nI (sN s)) = True := eq_true (nI_le (Nat.le_refl _) (by omega))
    have e4 : gI h1 o 4 = nI tk := (hf.i (fun z => by unfold OC at z; omega)).trans h4
    simp only [v12_0, v12_1, v12_2, v12_5, v12_6, v12_7, v12_10, v12_11, v12_12, v12_13, v12_14, v12_17, v12_20, v12_23, v12_24, v12_27, v12_28, v12_31, v12_34, v12_35, v12_36, v12_39, v12_40, v12_41, v12_42, v12_43, v12_46, v12_47, v12_48, v12_51, v12_52, v12_55, v12_58, v12_59, v12_60, v12_61, v12_64, v12_67, v12_68, v12_69, v12_70, v12_71, v12_72, v12_73, v12_76, v12_82, v12_83, v12_84, v12_87, v12_88, v12_91, v12_92, v12_95, w1, w8, vrf_s, s1, p1, e8, reduceIte, true_and, e4, e6]
    refine kk _ (hf.pI ⟨rfl, by omega⟩) ?_ ?_ (gI_at _ _ _ _)
    · rw [gI_ne (by omega)]; exact e5
    · rw [gI_ne (by omega)]; exact e6
  | succ j ih =>
    intro t h1 hi hf e5 e6
    have ht : t < sN s := by omega
    have q := hf.mo (OC.w)
    have hQ1 := hQ.ow ho q
    have hP1 := hP.ow hQ hO ho q
    obtain ⟨w1, w2, w3, w4, w5, w6, w7, w8, -⟩ := hS.ow q
    obtain ⟨t1, t2, t3, t4, t5⟩ := hQ1.th (show t < 8 by omega)
    obtain ⟨s1, s2, s3, s4, s5, s6, s7, s8, s9, s10, -⟩ := id hQ1
    have p1 := hP1.1
    have e2 := hP1.t ht (k := 2) (by omega)
    have a3 := hP1.aa (k := 3) (by omega)
    have lt : (nI (sN s) ≤ nI t) = False := eq_false (nI_ge ht (by omega))
    have c1 : (nI t).toNatClampNeg = t := nIc (by omega)
    have i1 : inb (nI t) 8 = True := nIb (by omega) (by omega)
    have e13 : gI h1 o 13 = nI (msk sold 8) := (hf.i (fun z => by unfold OC at z; omega)).trans h13
    have bi : bitI (nI (msk sold 8)) (nI t) = sold t := by rw [bitI_N _ t (by omega), msk_t, decide_eq_true (by omega), Bool.true_and]
    have sh := nShl t (by omega)
    have n1 : ∀ x : Int32, gI (pI h1 o 5 x) o 6 = gI h1 o 6 := fun x => gI_ne (by omega)
    have n2 : ∀ (x : Int32) (k : Nat), gI (pI h1 o 5 x) (ρ t) k = gI h1 (ρ t) k := fun x k => gI_ne (by omega)
    have n3 : ∀ (x : Int32) (k : Nat), gI (pI h1 o 5 x) (a + 35) k = gI h1 (a + 35) k := fun x k => gI_ne (by omega)
    have hms : ∀ h2, Fr (OC o) h h2 → gI h2 o 5 = nI (msk (fun t => !sold t) (t + 1)) → gI h2 o 6 = nI (sA s 3 * hmN s sold (t + 1)) → V 12 79 [.ref o, .int (nI (t + 1))] [] h2 K := fun h2 q2 x5 x6 => by
      rw [v12_79]
      exact ih (t + 1) h2 (by omega) q2 x5 x6
    cases hs : sold t with
    | true =>
      simp only [v12_0, v12_1, v12_2, v12_5, v12_6, v12_7, v12_10, v12_11, v12_12, v12_13, v12_14, v12_17, v12_20, v12_23, v12_24, v12_27, v12_28, v12_31, v12_34, v12_35, v12_36, v12_39, v12_40, v12_41, v12_42, v12_43, v12_46, v12_47, v12_48, v12_51, v12_52, v12_55, v12_58, v12_59, v12_60, v12_61, v12_64, v12_67, v12_68, v12_69, v12_70, v12_71, v12_72, v12_73, v12_76, v12_82, v12_83, v12_84, v12_87, v12_88, v12_91, v12_92, v12_95, w1, w8, vrf_s, s1, p1, lt, reduceIte, true_and, e13, c127, bi, hs, pu_s, z2_t, i10, not_false_eq_true, nI_1]
      refine hms h1 hf ?_ ?_
      · rw [e5]
        show _ = nI (if (!sold t) = true then msk (fun t => !sold t) t ||| 2 ^ t else msk (fun t => !sold t) t)
        rw [hs, if_neg (by decide)]
      · rw [e6]
        show _ = nI (sA s 3 * (hmN s sold t + if sold t = true then 0 else sT s t 2))
        rw [hs, if_pos rfl, Nat.add_zero]
    | false =>
      simp only [v12_0, v12_1, v12_2, v12_5, v12_6, v12_7, v12_10, v12_11, v12_12, v12_13, v12_14, v12_17, v12_20, v12_23, v12_24, v12_27, v12_28, v12_31, v12_34, v12_35, v12_36, v12_39, v12_40, v12_41, v12_42, v12_43, v12_46, v12_47, v12_48, v12_51, v12_52, v12_55, v12_58, v12_59, v12_60, v12_61, v12_64, v12_67, v12_68, v12_69, v12_70, v12_71, v12_72, v12_73, v12_76, v12_82, v12_83, v12_84, v12_87, v12_88, v12_91, v12_92, v12_95, gI_pJ, gI_pR, gJ_pI, gJ_pR, gR_pI, gR_pJ, gK_pI, gK_pJ, gK_pR, gN_pI, gN_pJ, gN_pR, gX_pI, gX_pJ, gX_pR, gS_pI, gS_pJ, gS_pR, gK_cpI, gN_cpI, gK_cpJ, gN_cpJ, gR_cpI, gR_cpJ, gJ_cpI, gI_cpJ, w1, w8, vrf_s, s1, s2, s4, s5, s6, s9, s10, t1, t2, t3, p1, lt, reduceIte, true_and, true_or, or_true, and_self, ib7_0, ib7_1, ib7_2, ib7_3, ib7_4, ib7_5, ib7_6, ib3_0, ib3_1, ib3_2, ib4_0, ib4_1, ib4_2, ib4_3, tc0, tc1, tc2, tc3, tc4, tc5, tc6, c1, i1, e13, c127, bi, hs, pu_s, z2_f, not_true_eq_false, nI_1, n1, n2, n3, e5, e6, e2, a3, sh, nOr, nM, nI_add]
      refine hms _ ((hf.pI ⟨rfl, by omega⟩).pI ⟨rfl, by omega⟩) ?_ ?_
      · rw [gI_ne (by omega), gI_at]
        show _ = nI (if (!sold t) = true then msk (fun t => !sold t) t ||| 2 ^ t else msk (fun t => !sold t) t)
        rw [hs, if_pos (by decide)]
      · rw [gI_at]
        show _ = nI (sA s 3 * (hmN s sold t + if sold t = true then 0 else sT s t 2))
        rw [hs, if_neg (by decide), Nat.mul_add]
/-- close -/
theorem c12 (ho : a + 36 ≤ o) (hS : OSh o a h) (hQ : SQ a ρ β h) (hP : SV a ρ β s h) (hO : SOk s) {sold : Nat → Bool} {tk : Nat} (h4 : gI h o 4 = nI tk) (h13 : gI h o 13 = nI (msk sold 8))
    (kk : ∀ h2, Fr (OC o) h h2 → gI h2 o 5 = nI (msk (fun t => !sold t) (sN s)) → gI h2 o 6 = nI (sA s 3 * hmN s sold (sN s)) → gI h2 o 7 = nI tk - nI (sA s 3 * hmN s sold (sN s)) → K none h2) : AM 12 [.ref o] h K := by
  have w1 := hS.1
  simp only [e12, v12_0, v12_1, v12_2, v12_5, v12_6, v12_7, v12_10, v12_11, w1, true_and, gI_pJ, gI_pR, gJ_pI, gJ_pR, gR_pI, gR_pJ, gK_pI, gK_pJ, gK_pR, gN_pI, gN_pJ, gN_pR, gX_pI, gX_pJ, gX_pR, gS_pI, gS_pJ, gS_pR, gK_cpI, gN_cpI, gK_cpJ, gN_cpJ, gR_cpI, gR_cpJ, gJ_cpI, gI_cpJ]
  refine c12_l ho hS hQ hP hO h4 h13 kk (sN s) 0 _ (Nat.zero_add _) ((Fr.rf.pI ⟨rfl, by omega⟩).pI ⟨rfl, by omega⟩) ?_ ?_
  · rw [gI_ne (by omega), gI_at]; rfl
  · rw [gI_at]; rfl
theorem moS_some {M : MS} {b : Nat} (h : (mB (moS s π M b) b).isSome = true) : mC (moS s π M b) b = true := by
  unfold moS at h ⊢
  split at h
  · rename_i q
    rw [if_pos q]
    unfold moT at h ⊢
    split
    · exact up_at _ _ _
    · exact up_at _ _ _
  · change (up (mB M) b none b).isSome = true at h
    rw [up_at] at h
    cases h
theorem moS_none {M : MS} {b : Nat} (h : (mB (moS s π M b) b).isSome = false) : mS (moS s π M b) = mS M := by
  unfold moS at h ⊢
  split at h
  · rename_i q
    rw [if_pos q]
    cases ht : tkN s π M b with
    | none => rfl
    | some t =>
      rw [ht] at h
      change (up (mB M) b (some t) b).isSome = false at h
      rw [up_at] at h
      cases h
  · rename_i q
    rw [if_neg q]
    rfl
/-- what is on for each buyer -/
def onS (s : SG) (π : PR) (u : Nat) : Nat := msk (onN s (mS (mo s π u)) (sB s u 0)) (sN s)
theorem c7_l (ho : a + 36 ≤ o) (hS : OSh o a h) (hQ : SQ a ρ β h) (hP : SV a ρ β s h) (hO : SOk s) (hp : POk s π) (hc : PCl π) (hT : OT o s (pCap π) h) (hG : GP o π h)
    (kk : ∀ h2, Fr (OW o) h h2 → DC o s (mo s π (sM s)) (onS s π) (sM s) h2 → gI h2 o 5 = nI (msk (fun t => !mS (mo s π (sM s)) t) (sN s)) → gI h2 o 6 = nI (hoN s π) → gI h2 o 7 = gaI s π → K none h2) :
    ∀ (j b : Nat) (h1 : Hp) (hv : Int32) (v4 : Value), b + j = sM s → Fr (OW o) h h1 → DC o s (mo s π b) (onS s π) b h1 → ((b = 0 ∧ hv = -1) ∨ (0 < b ∧ hv = nI (sB s (b - 1) 0) ∧ HR o s (mS (mo s π b)) (sB s (b - 1) 0) h1)) →
      V 7 18 [.ref o, .int hv, .int (z2 (jbN (mo s π b) b)), .int (nI b), v4] [] h1 K := by
  have hm24 := hO.2.1
  intro j
  induction j with
  | zero =>
    intro b h1 hv v4 hi hf hD hv1
    have e : b = sM s := by omega
    subst e
    obtain ⟨w1, w2, w3, w4, w5, w6, w7, w8, -⟩ := hS.ow hf
    have s1 := (hQ.ow ho hf).1
    have p2 := (hP.ow hQ hO ho hf).2.1
    have e8 : (nI (sM s) ≤ nI (sM s)) = True := eq_true (nI_le (Nat.le_refl _) (by omega))
    simp only [v7_18, v7_19, v7_20, v7_23, v7_26, v7_93, v7_94, w1, w8, vrf_s, s1, p2, e8, reduceIte, true_and]
    refine c12 ho (hS.ow hf) (hQ.ow ho hf) (hP.ow hQ hO ho hf) hO hD.2.2.2.2.1 hD.2.2.2.2.2.2 (fun h2 q2 x5 x6 x7 => ?_)
    show V 7 97 _ (pu none []) h2 K
    simp only [pu_n, v7_97]
    have n : ∀ (x j : Nat), ¬ OC o x j → True := fun _ _ _ => trivial
    refine kk h2 (hf.tr (q2.mo OC.w)) ?_ x5 x6 x7
    obtain ⟨d1, d2, d3, d4, d5, d6, d7⟩ := hD
    exact ⟨fun t ht => (q2.i (fun z => by unfold OC at z; omega)).trans (d1 t ht), fun t ht => (q2.i (fun z => by unfold OC at z; omega)).trans (d2 t ht), fun t ht => (q2.i (fun z => by unfold OC at z; omega)).trans (d3 t ht), fun t ht => (q2.i (fun z => by unfold OC at z; omega)).trans (d4 t ht), (q2.i (fun z => by unfold OC at z; omega)).trans d5, (q2.i (fun z => by unfold OC at z; omega)).trans d6, (q2.i (fun z => by unfold OC at z; omega)).trans d7⟩
  | succ j ih =>
    intro b h1 hv v4 hi hf hD hv1
    have hb : b < sM s := by omega
    have hQ1 := hQ.ow ho hf
    have hP1 := hP.ow hQ hO ho hf
    obtain ⟨w1, w2, w3, w4, w5, w6, w7, w8, -⟩ := id (hS.ow hf)
    obtain ⟨u1, u2, u3, u4, u5⟩ := hQ1.by (show b < 24 by omega)
    obtain ⟨s1, s2, s3, s4, s5, s6, s7, s8, s9, s10, -⟩ := id hQ1
    have p2 := hP1.2.1
    have f0 := hP1.b hb (k := 0) (by omega)
    obtain ⟨g0, g1, -, g2⟩ := hO.2.2.2.1 b hb
    have lt : (nI (sM s) ≤ nI b) = False := eq_false (nI_ge hb (by omega))
    have c2 : (nI b).toNatClampNeg = b := nIc (by omega)
    have i2 : inb (nI b) 24 = True := nIb (by omega) (by omega)
    -- behind the hour: serve, and what is on again
    have rest : ∀ h3, Fr (OW o) h h3 → DC o s (mo s π b) (onS s π) b h3 → HR o s (mS (mo s π b)) (sB s b 0) h3 → V 7 58 [.ref o, .int (nI (sB s b 0)), .int (z2 (jbN (mo s π b) b)), .int (nI b), .ref (β b)] [] h3 K := by
      intro h3 q3 hD3 hH3
      have y1 := (hS.ow q3).1
      simp only [v7_58, v7_59, v7_60, v7_62, v7_63, y1, true_and]
      refine c10 ho (hS.ow q3) (hQ.ow ho q3) (hP.ow hQ hO ho q3) hO hp hc (hT.ow q3) (hG.ow q3) hb hD3 hH3 rfl (fun h4 q4 hD4 => ?_)
      have q5 : Fr (OW o) h h4 := q3.tr (q4.mo OV.w)
      have hS4 := hS.ow q5
      obtain ⟨y1, y2, y3, y4, y5, y6, y7, y8, -⟩ := id hS4
      have x1 := (hQ.ow ho q5).1
      have jb : jbN (moS s π (mo s π b) b) (b + 1) = (mB (moS s π (mo s π b) b) b).isSome := by
        unfold jbN
        rw [decide_eq_true (by omega), Bool.true_and, Nat.add_sub_cancel]
        cases hx : (mB (moS s π (mo s π b) b) b).isSome with
        | true => rw [moS_some hx]; rfl
        | false => rw [Bool.and_false]
      show V 7 66 _ (pu (some _) []) h4 K
      cases hx : (mB (moS s π (mo s π b) b) b).isSome with
      | true =>
        simp only [pu_s, v7_66, v7_67, v7_68, v7_71, v7_72, v7_73, v7_76, v7_77, v7_78, v7_81, v7_84, v7_87, z2_t, i10, reduceIte, y1, y8, vrf_s, x1, true_and, hD4.2.2.2.2.2.2, c29 (hQ.ow ho q5) (hP.ow hQ hO ho q5) hO g0, onM_congr hO, nI_1]
        rw [v7_90]
        have q6 : Fr (fun x j => x = o ∧ j = 14) h4 (pI h4 o 14 (nI (msk (onN s (mS (moS s π (mo s π b) b)) (sB s b 0)) (sN s)))) := Fr.rf.pI ⟨rfl, rfl⟩
        have := ih (b + 1) _ (nI (sB s b 0)) (.ref (β b)) (by omega) (q5.tr (q6.mo (fun x j z => by unfold OW; omega))) (by
          obtain ⟨d1, d2, d3, d4, d5, d6, d7⟩ := hD4
          exact ⟨fun t ht => (q6.i (fun z => by omega)).trans (d1 t ht), fun t ht => (q6.i (fun z => by omega)).trans (d2 t ht), fun t ht => (q6.i (fun z => by omega)).trans (d3 t ht), fun t ht => (q6.i (fun z => by omega)).trans (d4 t ht), (q6.i (fun z => by omega)).trans d5, (q6.i (fun z => by omega)).trans d6, (q6.i (fun z => by omega)).trans d7⟩) (Or.inr ⟨by omega, rfl, fun t ht => (q6.i (fun z => by omega)).trans ((hH3.ov q4).1 t ht), gI_at _ _ _ _⟩)
        rw [show mo s π (b + 1) = moS s π (mo s π b) b from rfl, jb, hx, z2_t] at this
        exact this
      | false =>
        simp only [pu_s, v7_66, v7_67, v7_68, v7_87, z2_f, reduceIte, nI_1]
        rw [v7_90]
        have := ih (b + 1) h4 (nI (sB s b 0)) (.ref (β b)) (by omega) q5 hD4 (Or.inr ⟨by omega, rfl, by
          rw [show mo s π (b + 1) = moS s π (mo s π b) b from rfl, moS_none hx]
          exact hH3.ov q4⟩)
        rw [show mo s π (b + 1) = moS s π (mo s π b) b from rfl, jb, hx, z2_f] at this
        exact this
    have nh : V 7 48 [.ref o, .int hv, .int (z2 (jbN (mo s π b) b)), .int (nI b), .ref (β b)] [] h1 K := by
      simp only [v7_48, v7_50, v7_51, v7_52, v7_53, v7_54, v7_55, u2, u3, true_or, true_and, ib7_0, ib7_1, ib7_2, ib7_3, ib7_4, ib7_5, ib7_6, ib3_0, ib3_1, ib3_2, ib4_0, ib4_1, ib4_2, ib4_3, tc0, tc1, tc2, tc3, tc4, tc5, tc6, f0, w1]
      refine c9 ho (hS.ow hf) hQ1 hP1 hO g0 hD.2.2.2.2.2.2 (fun h2 q2 q2' hH2 => ?_)
      show V 7 58 _ (pu none []) h2 K
      rw [pu_n]
      refine rest h2 (hf.tr q2) ?_ hH2
      obtain ⟨d1, d2, d3, d4, d5, d6, d7⟩ := hD
      exact ⟨fun t ht => (q2'.i (fun z => by omega)).trans (d1 t ht), fun t ht => (q2'.i (fun z => by omega)).trans (d2 t ht), fun t ht => (q2'.i (fun z => by omega)).trans (d3 t ht), fun t ht => (q2'.i (fun z => by omega)).trans (d4 t ht), (q2'.i (fun z => by omega)).trans d5, (q2'.i (fun z => by omega)).trans d6, (q2'.i (fun z => by omega)).trans d7⟩
    simp only [v7_18, v7_19, v7_20, v7_23, v7_26, v7_29, v7_30, v7_33, v7_36, v7_37, v7_38, v7_40, v7_42, v7_43, v7_44, v7_45, w1, w8, vrf_s, s1, p2, lt, reduceIte, true_and, s3, s7, s8, c2, i2, u1, u2, u3, true_or, or_true, and_self, ib7_0, ib7_1, ib7_2, ib7_3, ib7_4, ib7_5, ib7_6, ib3_0, ib3_1, ib3_2, ib4_0, ib4_1, ib4_2, ib4_3, tc0, tc1, tc2, tc3, tc4, tc5, tc6, f0]
    rcases hv1 with ⟨rfl, rfl⟩ | ⟨h0, rfl, hH⟩
    · rw [if_neg (show ¬ nI (sB s 0 0) = -1 by rw [nm1 (by omega)]; exact id)]
      exact nh
    · have g9 := (hO.2.2.2.1 (b - 1) (by omega)).1
      by_cases e : sB s b 0 = sB s (b - 1) 0
      · rw [if_pos (by rw [e])]
        rw [← e] at hH ⊢
        exact rest h1 hf hD hH
      · rw [if_neg (by rw [neqN (by omega) (by omega)]; exact e)]
        exact nh
/-- goBy -/
theorem c7 (ho : a + 36 ≤ o) (hS : OSh o a h) (hQ : SQ a ρ β h) (hP : SV a ρ β s h) (hO : SOk s) (hp : POk s π) (hc : PCl π) (hT : OT o s (pCap π) h) (hG : GP o π h)
    (kk : ∀ h2, Fr (OW o) h h2 → DC o s (mo s π (sM s)) (onS s π) (sM s) h2 → gI h2 o 5 = nI (msk (fun t => !mS (mo s π (sM s)) t) (sN s)) → gI h2 o 6 = nI (hoN s π) → gI h2 o 7 = gaI s π → K none h2) : AM 7 [.ref o] h K := by
  obtain ⟨w1, w2, w3, w4, w5, w6, w7, w8, -⟩ := id hS
  have ns : ((some a : Option Nat) = none) = False := eq_false (by simp)
  simp only [e7, v7_0, v7_1, v7_4, v7_8, v7_9, w1, w8, ns, reduceIte, true_and]
  refine c8 hS (fun h2 q2 z1 z4 z5 z12 z13 => ?_)
  show V 7 12 _ (pu none []) h2 K
  simp only [pu_n, v7_12, v7_13, v7_14, v7_15, v7_16, v7_17]
  refine c7_l ho hS hQ hP hO hp hc hT hG kk (sM s) 0 h2 (-1) un0 (Nat.zero_add _) q2 ⟨fun t ht => z1 t ht, fun u hu => absurd hu (Nat.not_lt_zero u), fun u hu => absurd hu (Nat.not_lt_zero u), fun x hx => z4 x hx, z5, z12, ?_⟩ (Or.inl ⟨rfl, rfl⟩)
  rw [z13]
  show nI 0 = nI (msk (fun t => decide (pHm π = some t)) 8)
  rw [hc.2.1]
  rfl
end
