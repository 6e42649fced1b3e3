/-! THE CLASS'S MORNING: serve, one buyer -/
/-- no rain, nothing at home, what is offered is given away -/
def PCl (π : PR) : Prop := pR0 π = 7 ∧ pHm π = none ∧ ∀ q, pOff π = some q → q.2.2 = 0
def jbN (M : MS) (b : Nat) : Bool := decide (0 < b) && mC M (b - 1) && (mB M (b - 1)).isSome
section
variable {o a : Nat} {ρ β : Nat → Nat} {s : SG} {π : PR} {h h1 : Hp} {K : Option Value → Hp → Prop}
theorem OSh.ov (hS : OSh o a h) (q : Fr (OV o) h h1) : OSh o a h1 := hS.ow (q.mo OV.w)
theorem HR.ov {sold : Nat → Bool} {hr : Nat} (hH : HR o s sold hr h) (q : Fr (OV o) h h1) : HR o s sold hr h1 := ⟨fun t ht => (q.i (fun z => by unfold OV at z; omega)).trans (hH.1 t ht), (q.i (fun z => by unfold OV at z; omega)).trans hH.2⟩
theorem inT {t : Nat} (ht : t < 8) : inI (nI t) 0 7 = true := inI_t.mpr ⟨nI_pos' (by omega), nI_le (b := 7) (by omega) (by decide)⟩
theorem inM : inI (-1) 0 7 = false := by decide
/-- serve -/
theorem c10 (ho : a + 36 ≤ o) (hS : OSh o a h) (hQ : SQ a ρ β h) (hP : SV a ρ β s h) (hO : SOk s) (hp : POk s π) (hc : PCl π) (hT : OT o s (pCap π) h) (hG : GP o π h) {M : MS} {ons : Nat → Nat} {b : Nat} (hb : b < sM s) (hD : DC o s M ons b h) (hH : HR o s (mS M) (sB s b 0) h) (hon : ons b = msk (onN s (mS M) (sB s b 0)) (sN s))
    (kk : ∀ h2, Fr (OV o) h h2 → DC o s (moS s π M b) ons (b + 1) h2 → K (some (.int (z2 (mB (moS s π M b) b).isSome))) h2) :
    AM 10 [.ref o, .int (nI b), .ref (β b), .int (z2 (jbN M b))] h K := by
  have hb8 : b < 24 := Nat.lt_of_lt_of_le hb hO.2.1
  have hn8 := hO.1
  obtain ⟨w1, w2, w3, w4, w5, w6, w7, w8, w9, w10, w11, w12, w13, w14, w15, w16, w17, w18, w19, w20⟩ := id hS
  obtain ⟨s1, s2, s3, s4, s5, s6, s7, s8, s9, s10, -⟩ := id hQ
  obtain ⟨u1, u2, u3, u4, u5⟩ := hQ.by hb8
  obtain ⟨d1, d2, d3, d4, d5, d6, d7⟩ := id hD
  have f1 := hP.b hb (k := 1) (by omega)
  have a2 := hP.aa (k := 2) (by omega)
  obtain ⟨g0, g1, -, g2⟩ := hO.2.2.2.1 b hb
  have a21 := hO.2.2.2.2.2.2.2.2.1
  have c2 : (nI b).toNatClampNeg = b := nIc (by omega)
  have i2 : inb (nI b) 24 = True := nIb (by omega) (by omega)
  have l2 : (nI (sB s b 1) = 2) = (sB s b 1 = 2) := (nLit (s := sB s b 1) (by omega)).2.2.1
  have l0 : (nI (sA s 2) = 0) = (sA s 2 = 0) := (nLit (s := sA s 2) (by omega)).1
  have sh := nShl b (by omega)
  have n1 : ∀ (x y : Int32) (k : Nat), gI (pI (pI h (o + 3) b x) (o + 2) b y) (β b) k = gI h (β b) k := fun x y k => by rw [gI_ne (by omega), gI_ne (by omega)]
  have n2 : ∀ (x y : Int32) (k : Nat), gI (pI (pI h (o + 3) b x) (o + 2) b y) (a + 35) k = gI h (a + 35) k := fun x y k => by rw [gI_ne (by omega), gI_ne (by omega)]
  have n3 : ∀ (x y : Int32) (k : Nat), gI (pI (pI h (o + 3) b x) (o + 2) b y) o k = gI h o k := fun x y k => by rw [gI_ne (by omega), gI_ne (by omega)]
  -- until it is known whether one comes
  have hst : ∀ (co : Bool), coN s π M b = co → (co = true → V 10 42 [.ref o, .int (nI b), .ref (β b), .int (z2 (jbN M b)), un0, un0, un0] [] (pI (pI h (o + 3) b (nI (ons b))) (o + 2) b (-1)) K) → (co = false → K (some (.int 0)) (pI (pI h (o + 3) b (nI (ons b))) (o + 2) b (-1))) → AM 10 [.ref o, .int (nI b), .ref (β b), .int (z2 (jbN M b))] h K := by
    intro co hco k1 k0
    have e14 : gI h o 14 = nI (ons b) := by rw [hH.2, hon]
    have hcv : co = (decide (sB s b 1 ≠ 2) || (decide (sA s 2 = 1) || jbN M b)) := by
      rw [← hco]
      unfold coN frN jbN
      rw [hc.1, decide_eq_true (by omega), Bool.true_and]
    by_cases x1 : sB s b 1 = 2
    · by_cases x2 : sA s 2 = 0
      · cases x3 : jbN M b with
        | true =>
          have : co = true := by rw [hcv, x3]; simp
          have k2 := k1 this
          rw [x3] at k2
          simp only [v10_0, v10_1, v10_4, v10_5, v10_6, v10_9, v10_10, v10_11, v10_14, v10_15, v10_16, v10_17, v10_18, v10_19, v10_20, v10_21, v10_24, v10_25, v10_28, v10_31, v10_32, v10_33, v10_36, v10_37, v10_40, v10_41, v10_43, v10_44, v10_47, v10_48, v10_49, v10_50, v10_51, v10_54, v10_55, v10_56, v10_59, v10_62, v10_63, v10_66, v10_67, v10_69, v10_71, v10_74, v10_75, v10_78, v10_81, v10_82, v10_83, v10_86, v10_88, v10_90, v10_91, v10_93, v10_96, v10_99, v10_100, v10_101, v10_103, v10_106, v10_107, v10_110, v10_111, v10_114, v10_116, v10_117, v10_119, v10_120, v10_123, v10_124, v10_126, v10_127, v10_128, v10_131, v10_133, v10_134, v10_135, v10_136, v10_137, v10_140, v10_141, v10_143, v10_144, v10_145, v10_148, v10_149, v10_150, v10_153, v10_155, v10_156, v10_159, v10_160, v10_163, v10_164, v10_165, v10_166, v10_167, v10_168, v10_170, v10_171, v10_172, v10_173, e10, gI_pJ, gI_pR, gJ_pI, gJ_pR, gR_pI, gR_pJ, gK_pI, gK_pJ, gK_pR, gN_pI, gN_pJ, gN_pR, gX_pI, gX_pJ, gX_pR, gS_pI, gS_pJ, gS_pR, gK_cpI, gN_cpI, gK_cpJ, gN_cpJ, gR_cpI, gR_cpJ, gJ_cpI, gI_cpJ, w1, w3, w4, w8, w10, w11, w16, w17, vrf_s, c2, i2, ib7_0, ib7_1, ib7_2, ib7_3, ib7_4, ib7_5, ib7_6, ib3_0, ib3_1, ib3_2, ib4_0, ib4_1, ib4_2, ib4_3, tc0, tc1, tc2, tc3, tc4, tc5, tc6, u2, u3, s1, s4, s9, s10, e14, n1, n2, f1, a2, x1, x2, n22, l0, not_true_eq_false, reduceIte, z2_t, i10, not_false_eq_true, true_and, true_or, and_self]
          exact k2
        | false =>
          have : co = false := by rw [hcv, x3]; simp [x1, x2]
          have k2 := k0 this
          simp only [v10_0, v10_1, v10_4, v10_5, v10_6, v10_9, v10_10, v10_11, v10_14, v10_15, v10_16, v10_17, v10_18, v10_19, v10_20, v10_21, v10_24, v10_25, v10_28, v10_31, v10_32, v10_33, v10_36, v10_37, v10_40, v10_41, v10_43, v10_44, v10_47, v10_48, v10_49, v10_50, v10_51, v10_54, v10_55, v10_56, v10_59, v10_62, v10_63, v10_66, v10_67, v10_69, v10_71, v10_74, v10_75, v10_78, v10_81, v10_82, v10_83, v10_86, v10_88, v10_90, v10_91, v10_93, v10_96, v10_99, v10_100, v10_101, v10_103, v10_106, v10_107, v10_110, v10_111, v10_114, v10_116, v10_117, v10_119, v10_120, v10_123, v10_124, v10_126, v10_127, v10_128, v10_131, v10_133, v10_134, v10_135, v10_136, v10_137, v10_140, v10_141, v10_143, v10_144, v10_145, v10_148, v10_149, v10_150, v10_153, v10_155, v10_156, v10_159, v10_160, v10_163, v10_164, v10_165, v10_166, v10_167, v10_168, v10_170, v10_171, v10_172, v10_173, e10, gI_pJ, gI_pR, gJ_pI, gJ_pR, gR_pI, gR_pJ, gK_pI, gK_pJ, gK_pR, gN_pI, gN_pJ, gN_pR, gX_pI, gX_pJ, gX_pR, gS_pI, gS_pJ, gS_pR, gK_cpI, gN_cpI, gK_cpJ, gN_cpJ, gR_cpI, gR_cpJ, gJ_cpI, gI_cpJ, w1, w3, w4, w8, w10, w11, w16, w17, vrf_s, c2, i2, ib7_0, ib7_1, ib7_2, ib7_3, ib7_4, ib7_5, ib7_6, ib3_0, ib3_1, ib3_2, ib4_0, ib4_1, ib4_2, ib4_3, tc0, tc1, tc2, tc3, tc4, tc5, tc6, u2, u3, s1, s4, s9, s10, e14, n1, n2, f1, a2, x1, x2, n22, l0, not_true_eq_false, reduceIte, z2_f, bo_0, true_and, true_or, and_self]
          exact k2
      · have : co = true := by rw [hcv]; simp [show sA s 2 = 1 by omega]
        have k2 := k1 this
        simp only [v10_0, v10_1, v10_4, v10_5, v10_6, v10_9, v10_10, v10_11, v10_14, v10_15, v10_16, v10_17, v10_18, v10_19, v10_20, v10_21, v10_24, v10_25, v10_28, v10_31, v10_32, v10_33, v10_36, v10_37, v10_40, v10_41, v10_43, v10_44, v10_47, v10_48, v10_49, v10_50, v10_51, v10_54, v10_55, v10_56, v10_59, v10_62, v10_63, v10_66, v10_67, v10_69, v10_71, v10_74, v10_75, v10_78, v10_81, v10_82, v10_83, v10_86, v10_88, v10_90, v10_91, v10_93, v10_96, v10_99, v10_100, v10_101, v10_103, v10_106, v10_107, v10_110, v10_111, v10_114, v10_116, v10_117, v10_119, v10_120, v10_123, v10_124, v10_126, v10_127, v10_128, v10_131, v10_133, v10_134, v10_135, v10_136, v10_137, v10_140, v10_141, v10_143, v10_144, v10_145, v10_148, v10_149, v10_150, v10_153, v10_155, v10_156, v10_159, v10_160, v10_163, v10_164, v10_165, v10_166, v10_167, v10_168, v10_170, v10_171, v10_172, v10_173, e10, gI_pJ, gI_pR, gJ_pI, gJ_pR, gR_pI, gR_pJ, gK_pI, gK_pJ, gK_pR, gN_pI, gN_pJ, gN_pR, gX_pI, gX_pJ, gX_pR, gS_pI, gS_pJ, gS_pR, gK_cpI, gN_cpI, gK_cpJ, gN_cpJ, gR_cpI, gR_cpJ, gJ_cpI, gI_cpJ, w1, w3, w4, w8, w10, w11, w16, w17, vrf_s, c2, i2, ib7_0, ib7_1, ib7_2, ib7_3, ib7_4, ib7_5, ib7_6, ib3_0, ib3_1, ib3_2, ib4_0, ib4_1, ib4_2, ib4_3, tc0, tc1, tc2, tc3, tc4, tc5, tc6, u2, u3, s1, s4, s9, s10, e14, n1, n2, f1, a2, x1, x2, n22, l0, not_true_eq_false, not_false_eq_true, reduceIte, true_and, true_or, and_self]
        exact k2
    · have : co = true := by rw [hcv]; simp [x1]
      have k2 := k1 this
      simp only [v10_0, v10_1, v10_4, v10_5, v10_6, v10_9, v10_10, v10_11, v10_14, v10_15, v10_16, v10_17, v10_18, v10_19, v10_20, v10_21, v10_24, v10_25, v10_28, v10_31, v10_32, v10_33, v10_36, v10_37, v10_40, v10_41, v10_43, v10_44, v10_47, v10_48, v10_49, v10_50, v10_51, v10_54, v10_55, v10_56, v10_59, v10_62, v10_63, v10_66, v10_67, v10_69, v10_71, v10_74, v10_75, v10_78, v10_81, v10_82, v10_83, v10_86, v10_88, v10_90, v10_91, v10_93, v10_96, v10_99, v10_100, v10_101, v10_103, v10_106, v10_107, v10_110, v10_111, v10_114, v10_116, v10_117, v10_119, v10_120, v10_123, v10_124, v10_126, v10_127, v10_128, v10_131, v10_133, v10_134, v10_135, v10_136, v10_137, v10_140, v10_141, v10_143, v10_144, v10_145, v10_148, v10_149, v10_150, v10_153, v10_155, v10_156, v10_159, v10_160, v10_163, v10_164, v10_165, v10_166, v10_167, v10_168, v10_170, v10_171, v10_172, v10_173, e10, gI_pJ, gI_pR, gJ_pI, gJ_pR, gR_pI, gR_pJ, gK_pI, gK_pJ, gK_pR, gN_pI, gN_pJ, gN_pR, gX_pI, gX_pJ, gX_pR, gS_pI, gS_pJ, gS_pR, gK_cpI, gN_cpI, gK_cpJ, gN_cpJ, gR_cpI, gR_cpJ, gJ_cpI, gI_cpJ, w1, w3, w4, w8, w10, w11, w16, w17, vrf_s, c2, i2, ib7_0, ib7_1, ib7_2, ib7_3, ib7_4, ib7_5, ib7_6, ib3_0, ib3_1, ib3_2, ib4_0, ib4_1, ib4_2, ib4_3, tc0, tc1, tc2, tc3, tc4, tc5, tc6, u2, u3, s1, s4, s9, s10, e14, n1, n2, f1, a2, x1, l2, not_false_eq_true, reduceIte, true_and, true_or, and_self]
      exact k2
  generalize hh3 : pI (pI h (o + 3) b (nI (ons b))) (o + 2) b (-1) = h3 at hst
  have q3 : Fr (OV o) h h3 := by rw [← hh3]; exact (Fr.rf.pI (Or.inl (by omega))).pI (Or.inl (by omega))
  have t1 : ∀ t, gI h3 (o + 1) t = gI h (o + 1) t := fun t => by rw [← hh3, gI_ne (by omega), gI_ne (by omega)]
  have t2 : ∀ u, u ≠ b → gI h3 (o + 2) u = gI h (o + 2) u := fun u hu => by rw [← hh3, gI_ne (by omega), gI_ne (by omega)]
  have t2' : gI h3 (o + 2) b = -1 := by rw [← hh3, gI_at]
  have t3 : ∀ u, u ≠ b → gI h3 (o + 3) u = gI h (o + 3) u := fun u hu => by rw [← hh3, gI_ne (by omega), gI_ne (by omega)]
  have t3' : gI h3 (o + 3) b = nI (ons b) := by rw [← hh3, gI_ne (by omega), gI_at]
  have t4 : ∀ x, gI h3 (o + 4) x = gI h (o + 4) x := fun x => by rw [← hh3, gI_ne (by omega), gI_ne (by omega)]
  have t5 : ∀ k, gI h3 o k = gI h o k := fun k => by rw [← hh3]; exact n3 _ _ k
  clear hh3
  cases hco : coN s π M b with
  | false =>
    refine hst false hco (fun z => by cases z) (fun _ => ?_)
    have e1 : moS s π M b = (mS M, mK M, up (mC M) b false, up (mB M) b none, up (mD M) b 0) := by unfold moS; rw [hco, if_neg (by decide)]
    rw [e1] at kk
    have hB := hD.base false (h' := h3) t1 t2 t2' t3 t3' t4 (t5 4) ((t5 12).trans d6) (t5 13)
    have := kk h3 q3 hB
    change K (some (.int (z2 (up (mB M) b none b).isSome))) h3 at this
    rw [up_at] at this
    exact this
  | true =>
    refine hst true hco (fun _ => ?_) (fun z => by cases z)
    have e1 : moS s π M b = moT s π M b (tkN s π M b) := by unfold moS; rw [hco, if_pos rfl]
    rw [e1] at kk
    have hS3 := hS.ov q3
    have w13' := hS3.1
    -- the buyer has come
    have hB := hD.base true (h' := pI h3 o 12 (nI (msk (mC M) b ||| 2 ^ b))) (fun t => by rw [gI_ne (by omega)]; exact t1 t) (fun u hu => by rw [gI_ne (by omega)]; exact t2 u hu) (by rw [gI_ne (by omega)]; exact t2') (fun u hu => by rw [gI_ne (by omega)]; exact t3 u hu) (by rw [gI_ne (by omega)]; exact t3') (fun x => by rw [gI_ne (by omega)]; exact t4 x) (by rw [gI_ne (by omega)]; exact t5 4) (by rw [gI_at, if_pos rfl]) (by rw [gI_ne (by omega)]; exact t5 13)
    have q4 : Fr (OV o) h (pI h3 o 12 (nI (msk (mC M) b ||| 2 ^ b))) := q3.pI (Or.inr ⟨rfl, by omega⟩)
    have e12 : gI h3 o 12 = nI (msk (mC M) b) := (t5 12).trans d6
    have n12 : ∀ (x : Int32) (k : Nat), k ≠ 12 → gI (pI h3 o 12 x) o k = gI h3 o k := fun x k hk => gI_ne (by omega)
    have n15 : gI (pI h3 o 12 (nI (msk (mC M) b ||| 2 ^ b))) o 15 = oI ((pOff π).map (fun q => q.1)) := by rw [gI_ne (by omega), t5 15]; exact hG.1
    have n16 : gI (pI h3 o 12 (nI (msk (mC M) b ||| 2 ^ b))) o 16 = gI h o 16 := by rw [gI_ne (by omega), t5 16]
    have k12 : gK (pI h3 o 12 (nI (msk (mC M) b ||| 2 ^ b))) o = 1 := w13'
    have pg : pI h3 o 12 (gI h3 o 12 ||| ((1 : Int32) <<< (nI b &&& 31))) = pI h3 o 12 (nI (msk (mC M) b ||| 2 ^ b)) := by rw [e12, sh, nOr]
    simp only [v10_0, v10_1, v10_4, v10_5, v10_6, v10_9, v10_10, v10_11, v10_14, v10_15, v10_16, v10_17, v10_18, v10_19, v10_20, v10_21, v10_24, v10_25, v10_28, v10_31, v10_32, v10_33, v10_36, v10_37, v10_40, v10_41, v10_42, v10_43, v10_44, v10_47, v10_48, v10_49, v10_50, v10_51, v10_55, v10_56, v10_59, v10_62, v10_63, v10_66, v10_67, v10_69, v10_71, v10_74, v10_75, v10_78, v10_81, v10_82, v10_83, v10_86, v10_88, v10_90, v10_91, v10_93, v10_96, v10_99, v10_100, v10_101, v10_103, v10_106, v10_107, v10_110, v10_111, v10_114, v10_116, v10_117, v10_119, v10_120, v10_123, v10_124, v10_126, v10_127, v10_128, v10_131, v10_133, v10_134, v10_135, v10_136, v10_137, v10_140, v10_141, v10_143, v10_144, v10_145, v10_148, v10_149, v10_150, v10_153, v10_155, v10_156, v10_159, v10_160, v10_163, v10_164, v10_165, v10_166, v10_167, v10_168, v10_170, v10_171, v10_172, v10_173, w13', true_and, pg]
    generalize pI h3 o 12 (nI (msk (mC M) b ||| 2 ^ b)) = h4 at hB q4 n15 n16 k12 ⊢
    have hS4 := hS.ov q4
    have hQ4 := hQ.ow ho (q4.mo OV.w)
    have hP4 := hP.ow hQ hO ho (q4.mo OV.w)
    have hT4 := hT.ow (q4.mo OV.w)
    have hH4 := hH.ov q4
    obtain ⟨m1, m2, m3, m4, m5, m6, m7⟩ := id hB
    have ex : gI h4 (o + 4) (sB s b 0) = nI (tiB (fun u => sB s u 0) (mD M) b (sB s b 0)) := by
      have := m4 (sB s b 0) (by omega)
      change _ = nI (tiB (fun u => sB s u 0) (up (mD M) b 0) b (sB s b 0) + if sB s b 0 = sB s b 0 then up (mD M) b 0 b else 0) at this
      rw [up_at, ite_self, Nat.add_zero, tiB_congr (g := mD M) _ b (fun u hu => up_ne (show u ≠ b by omega))] at this
      exact this
    have fin : ∀ (t : Nat) (v3 v4 : Value), t < sN s → tkN s π M b = some t → V 10 119 [.ref o, .int (nI b), .ref (β b), v3, v4, .int (nI t), .int (nI (pdN s π b t))] [] h4 K := by
      intro t v3 v4 ht htk
      rw [c10_s (M := M) hS4 hQ4 hP4 hO hb (show t < 8 by omega) ho m5 m7 ex v3 v4]
      rw [htk] at kk
      have := kk _ (((((q4.pI (a := o + 2) (Or.inl (by omega))).pI (a := o + 1) (Or.inl (by omega))).pI (Or.inr ⟨rfl, by omega⟩)).pI (Or.inr ⟨rfl, by omega⟩)).pI (Or.inl (by omega))) (DC.sale (t := t) (p := pdN s π b t) (by omega) g0 hB rfl)
      change K (some (.int (z2 (up (mB M) b (some t) b).isSome))) _ at this
      rw [up_at] at this
      exact this
    cases hof : offQ π b with
    | some q =>
      have hoq := offQ_s hof
      have e2 : gI h4 o 15 = nI b := by rw [n15, hoq]; rfl
      have e3 : gI h4 o 16 = nI q.1 := by rw [n16]; exact hG.2 _ hoq
      have htn : q.1 < sN s := (hp.2.2.1 _ hoq).2.1
      have htk : tkN s π M b = some q.1 := by unfold tkN; rw [hof]
      have hpd : pdN s π b q.1 = 0 := by unfold pdN; rw [hof]; exact hc.2.2 _ hoq
      have f := fin q.1 (.int (z2 (jbN M b))) (.int 1) htn htk
      rw [hpd] at f
      simp only [v10_0, v10_1, v10_4, v10_5, v10_6, v10_9, v10_10, v10_11, v10_14, v10_15, v10_16, v10_17, v10_18, v10_19, v10_20, v10_21, v10_24, v10_25, v10_28, v10_31, v10_32, v10_33, v10_36, v10_37, v10_40, v10_41, v10_42, v10_43, v10_44, v10_47, v10_48, v10_49, v10_50, v10_51, v10_54, v10_55, v10_56, v10_59, v10_62, v10_63, v10_66, v10_67, v10_69, v10_71, v10_74, v10_75, v10_78, v10_81, v10_82, v10_83, v10_86, v10_88, v10_90, v10_91, v10_93, v10_96, v10_99, v10_100, v10_101, v10_103, v10_106, v10_107, v10_110, v10_111, v10_114, v10_116, v10_117, v10_120, v10_123, v10_124, v10_126, v10_127, v10_128, v10_131, v10_133, v10_134, v10_135, v10_136, v10_137, v10_140, v10_141, v10_143, v10_144, v10_145, v10_148, v10_149, v10_150, v10_153, v10_155, v10_156, v10_159, v10_160, v10_163, v10_164, v10_165, v10_166, v10_167, v10_168, v10_170, v10_171, v10_172, v10_173, k12, e2, e3, not_true_eq_false, reduceIte, i10, true_and, c123, pu_s, inT (show q.1 < 8 by omega), z2_t, not_false_eq_true]
      exact f
    | none =>
      have e2 : (nI b = gI h4 o 15) = False := by
        rw [n15]
        cases hoq : pOff π with
        | none => exact nm1 (by omega)
        | some w =>
          have : w.1 ≠ b := fun e => by
            unfold offQ at hof
            rw [hoq] at hof
            dsimp only at hof
            rw [if_pos e] at hof
            cases hof
          have w24 := (hp.2.2.1 _ hoq).1
          show (nI b = nI w.1) = False
          rw [neqN (by omega) (by omega)]
          exact eq_false (fun z => this z.symm)
      have ch := fun (K : Option Value → Hp → Prop) => c11 (K := K) hS4 hQ4 hP4 hO hT4 (sold := mS M) (hr := sB s b 0) hb hH4.2 hH4.1
      have htk : tkN s π M b = (chN (onN s (mS M) (sB s b 0)) (fun t => prN s t (sB s b 0)) (fun t => pyN s (pCap π) b t (drN s (mS M) (sB s b 0) (sN s))) (sB s b 2) (sN s)).map (fun q => q.1) := by unfold tkN; rw [hof]
      generalize hC : chN (onN s (mS M) (sB s b 0)) (fun t => prN s t (sB s b 0)) (fun t => pyN s (pCap π) b t (drN s (mS M) (sB s b 0) (sN s))) (sB s b 2) (sN s) = C at htk ch
      cases C with
      | none =>
        rw [htk] at kk
        have := kk h4 q4 hB
        change K (some (.int (z2 (up (mB M) b none b).isSome))) h4 at this
        rw [up_at] at this
        simp only [v10_0, v10_1, v10_4, v10_5, v10_6, v10_9, v10_10, v10_11, v10_14, v10_15, v10_16, v10_17, v10_18, v10_19, v10_20, v10_21, v10_24, v10_25, v10_28, v10_31, v10_32, v10_33, v10_36, v10_37, v10_40, v10_41, v10_42, v10_43, v10_44, v10_47, v10_48, v10_49, v10_50, v10_51, v10_54, v10_55, v10_56, v10_59, v10_62, v10_63, v10_66, v10_67, v10_69, v10_71, v10_74, v10_75, v10_78, v10_81, v10_82, v10_83, v10_86, v10_88, v10_90, v10_91, v10_93, v10_96, v10_99, v10_100, v10_101, v10_103, v10_106, v10_107, v10_110, v10_111, v10_114, v10_116, v10_117, v10_120, v10_123, v10_124, v10_126, v10_127, v10_128, v10_131, v10_133, v10_134, v10_135, v10_136, v10_137, v10_140, v10_141, v10_143, v10_144, v10_145, v10_148, v10_149, v10_150, v10_153, v10_155, v10_156, v10_159, v10_160, v10_163, v10_164, v10_165, v10_166, v10_167, v10_168, v10_170, v10_171, v10_172, v10_173, k12, e2, not_false_eq_true, reduceIte, true_and, ch, chT, oI, Option.map_none, c123, pu_s, inM, z2_f, not_true_eq_false, bo_0]
        exact this
      | some q =>
        have htn : q.1 < sN s := (chN_lt _ _ hC).1
        have hpd : pdN s π b q.1 = prN s q.1 (sB s b 0) := by unfold pdN; rw [hof]
        have f := fin q.1 (.int (z2 (jbN M b))) (.int 0) htn htk
        rw [hpd] at f
        have c1 : (nI q.1).toNatClampNeg = q.1 := nIc (by omega)
        have i1 : inb (nI q.1) 8 = True := nIb (by omega) (by omega)
        obtain ⟨y1, y2, y3, y4, y5, y6, y7, y8, y9, y10, y11, y12, y13, y14, y15, y16, y17, y18, y19, y20⟩ := id hS4
        simp only [v10_0, v10_1, v10_4, v10_5, v10_6, v10_9, v10_10, v10_11, v10_14, v10_15, v10_16, v10_17, v10_18, v10_19, v10_20, v10_21, v10_24, v10_25, v10_28, v10_31, v10_32, v10_33, v10_36, v10_37, v10_40, v10_41, v10_42, v10_43, v10_44, v10_47, v10_48, v10_49, v10_50, v10_51, v10_54, v10_55, v10_56, v10_59, v10_62, v10_63, v10_66, v10_67, v10_69, v10_71, v10_74, v10_75, v10_78, v10_81, v10_82, v10_83, v10_86, v10_88, v10_90, v10_91, v10_93, v10_96, v10_99, v10_100, v10_101, v10_103, v10_106, v10_107, v10_110, v10_111, v10_114, v10_116, v10_117, v10_120, v10_123, v10_124, v10_126, v10_127, v10_128, v10_131, v10_133, v10_134, v10_135, v10_136, v10_137, v10_140, v10_141, v10_143, v10_144, v10_145, v10_148, v10_149, v10_150, v10_153, v10_155, v10_156, v10_159, v10_160, v10_163, v10_164, v10_165, v10_166, v10_167, v10_168, v10_170, v10_171, v10_172, v10_173, k12, e2, not_false_eq_true, reduceIte, true_and, true_or, and_self, ch, chT, oI, Option.map_some, c123, pu_s, inT (show q.1 < 8 by omega), z2_t, i10, y7, y14, y20, vrf_s, c1, i1, hH4.1 q.1 htn]
        exact f
end
