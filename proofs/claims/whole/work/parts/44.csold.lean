/-! THE CLASS'S hasCome and isSoldBeforeNoon, after a morning -/
theorem whB_lt {bu : Nat → Option Nat} {t : Nat} : ∀ (b u : Nat), whB bu b t = some u → u < b ∧ bu u = some t
  | 0, u, hq => by cases hq
  | b + 1, u, hq => by
    change (if bu b = some t then some b else whB bu b t) = some u at hq
    by_cases e : bu b = some t
    · rw [if_pos e] at hq
      cases hq
      exact ⟨Nat.lt_succ_self b, e⟩
    · rw [if_neg e] at hq
      obtain ⟨w1, w2⟩ := whB_lt b u hq
      exact ⟨Nat.lt_succ_of_lt w1, w2⟩
/-- whether t is sold before noon -/
def sbN (s : SG) (π : PR) (t : Nat) : Bool := match whB (mB (mo s π (sM s))) (sM s) t with
  | none => false
  | some u => decide (sB s u 0 < 6)
section
variable {r a o : Nat} {ρ β : Nat → Nat} {s : SG} {π : PR} {h h1 : Hp} {K : Option Value → Hp → Prop}
theorem c5 (hP : TP r a o ρ β s π h) (hO : SOk s) (hD : GD o s π h) {b : Nat} (hb : b < sM s) : AM 5 [.ref o, .int (nI b)] h K = K (some (.int (z2 (mC (mo s π (sM s)) b)))) h := by
  have hm := hO.2.1
  have k1 : gK h o = 1 := hP.2.2.1.1
  have e12 := hD.1.2.2.2.2.2.1
  have bi : bitI (nI (msk (mC (mo s π (sM s))) (sM s))) (nI b) = mC (mo s π (sM s)) b := by rw [bitI_N _ b (by omega), msk_t, decide_eq_true hb, Bool.true_and]
  simp only [v5_0, v5_1, v5_4, v5_5, v5_8, e5, k1, e12, c127, bi, pu_s, bo_z2, true_and]
theorem c6 (hP : TP r a o ρ β s π h) (hO : SOk s) (hD : GD o s π h) {t : Nat} (ht : t < sN s) : AM 6 [.ref o, .int (nI t)] h K = K (some (.int (z2 (sbN s π t)))) h := by
  have hm := hO.2.1
  have hn := hO.1
  obtain ⟨⟨-, -, -, -, hQ, -, -⟩, hV, hS, -, -⟩ := hP
  obtain ⟨w1, w2, w3, w4, w5, w6, w7, w8, w9, w10, w11, w12, w13, w14, w15, w16, w17, w18, w19, w20⟩ := id hS
  obtain ⟨s1, s2, s3, s4, s5, s6, s7, s8, s9, s10, -⟩ := id hQ
  have c1 : (nI t).toNatClampNeg = t := nIc (by omega)
  have i1 : inb (nI t) 8 = True := nIb (by omega) (by omega)
  have e1 := hD.1.1 t (by omega)
  unfold sbN
  cases hw : whB (mB (mo s π (sM s))) (sM s) t with
  | none =>
    rw [hw] at e1
    change gI h (o + 1) t = -1 at e1
    simp only [v6_0, v6_1, v6_4, v6_5, v6_6, v6_7, v6_8, v6_11, v6_14, v6_15, v6_16, v6_19, v6_20, v6_23, v6_26, v6_27, v6_28, v6_29, v6_30, v6_32, v6_35, v6_36, v6_39, v6_40, e6, w1, w2, w8, w9, w15, vrf_s, c1, i1, e1, reduceIte, true_and, true_or, and_self, bo_0, z2_f]
  | some u =>
    rw [hw] at e1
    change gI h (o + 1) t = nI u at e1
    have hu := (whB_lt _ _ hw).1
    obtain ⟨u1, u2, u3, -, -⟩ := hQ.by (show u < 24 by omega)
    have c2 : (nI u).toNatClampNeg = u := nIc (by omega)
    have i2 : inb (nI u) 24 = True := nIb (by omega) (by omega)
    have l1 : (nI u = -1) = False := nm1 (by omega)
    have f0 := hV.b hu (k := 0) (by omega)
    have g0 := (hO.2.2.2.1 u hu).1
    have l6 : ((6 : Int32) ≤ nI (sB s u 0)) = (6 ≤ sB s u 0) := nleN (a := 6) (by decide) (by omega)
    by_cases e : 6 ≤ sB s u 0
    · simp only [v6_0, v6_1, v6_4, v6_5, v6_6, v6_7, v6_8, v6_11, v6_14, v6_15, v6_16, v6_19, v6_20, v6_23, v6_26, v6_27, v6_28, v6_29, v6_30, v6_32, v6_35, v6_36, v6_39, v6_40, e6, w1, w2, w8, w9, w15, vrf_s, c1, i1, e1, l1, s1, s3, s7, s8, c2, i2, u1, u2, u3, ib7_0, ib7_1, ib7_2, ib7_3, ib7_4, ib7_5, ib7_6, ib3_0, ib3_1, ib3_2, ib4_0, ib4_1, ib4_2, ib4_3, tc0, tc1, tc2, tc3, tc4, tc5, tc6, f0, l6, e, reduceIte, true_and, true_or, or_true, and_self, bo_0, decide_eq_false (Nat.not_lt.mpr e), z2_f]
    · simp only [v6_0, v6_1, v6_4, v6_5, v6_6, v6_7, v6_8, v6_11, v6_14, v6_15, v6_16, v6_19, v6_20, v6_23, v6_26, v6_27, v6_28, v6_29, v6_30, v6_32, v6_35, v6_36, v6_39, v6_40, e6, w1, w2, w8, w9, w15, vrf_s, c1, i1, e1, l1, s1, s3, s7, s8, c2, i2, u1, u2, u3, ib7_0, ib7_1, ib7_2, ib7_3, ib7_4, ib7_5, ib7_6, ib3_0, ib3_1, ib3_2, ib4_0, ib4_1, ib4_2, ib4_3, tc0, tc1, tc2, tc3, tc4, tc5, tc6, f0, l6, e, reduceIte, true_and, true_or, or_true, and_self, bo_1, decide_eq_true (Nat.not_le.mp e), z2_t]
end
