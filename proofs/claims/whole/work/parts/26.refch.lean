/-! THE REFERENCE'S choice and what goes home -/
theorem sub_lt0 {a c : Nat} (ha : a ≤ 1000000) (hc : c ≤ 1000000) : (nI a - nI c < 0) = (a < c) := by
  apply propext
  rw [Int32.lt_iff_toInt_lt, Int32.toInt_sub, nI_toInt (by omega), nI_toInt (by omega)]
  simp only [Int.bmod]
  rw [show (0 : Int32).toInt = 0 from rfl]
  split <;> omega
def chV (o : Option (Nat × Nat)) : Int32 := match o with
  | none => 0
  | some q => nI q.2
def chT (o : Option (Nat × Nat)) : Int32 := oI (o.map (fun q => q.1))
section
variable {m : Nat} {s : SG} {h : Hp} {K : Option Value → Hp → Prop}
theorem c185_i (hM : MSh m h) (hP : MP m s h) (hO : SOk s) {cap : Option (Nat × Nat)} (hc : CP m cap h) {on : Nat → Bool} (hon : ∀ t, t < sN s → gI h (m + 54) t = z2 (on t)) {b t d : Nat} (hb : b < sM s) (ht : t < sN s) (hd : d ≤ 8) (v6 v7 : Value)
    (kk : ∀ w6 w7 : Value, V 185 96 [.ref m, .int (nI b), .int (nI d), .int (chT (chN on (fun t => prN s t (sB s b 0)) (fun t => pyN s cap b t d) (sB s b 2) (t + 1))), .int (chV (chN on (fun t => prN s t (sB s b 0)) (fun t => pyN s cap b t d) (sB s b 2) (t + 1))), .int (nI (t + 1)), w6, w7] [] h K) :
    V 185 8 [.ref m, .int (nI b), .int (nI d), .int (chT (chN on (fun t => prN s t (sB s b 0)) (fun t => pyN s cap b t d) (sB s b 2) t)), .int (chV (chN on (fun t => prN s t (sB s b 0)) (fun t => pyN s cap b t d) (sB s b 2) t)), .int (nI t), v6, v7] [] h K := by
  have ht8 : t < 8 := Nat.lt_of_lt_of_le ht hO.1
  have hb8 : b < 24 := Nat.lt_of_lt_of_le hb hO.2.1
  have hn8 := hO.1
  obtain ⟨u1, u2, u3⟩ := hM.by hb8
  have c1 : (nI t).toNatClampNeg = t := nIc (by omega)
  have c2 : (nI b).toNatClampNeg = b := nIc (by omega)
  have i1 : inb (nI t) 8 = True := nIb ht8 (by omega)
  have i2 : inb (nI b) 24 = True := nIb hb8 (by omega)
  have f0 := hP.b hb (k := 0) (by omega)
  have f2 := hP.b hb (k := 2) (by omega)
  obtain ⟨g0, g1, -, g2⟩ := hO.2.2.2.1 b hb
  have e9 := hP.1
  have eo := hon t ht
  have lt : (nI (sN s) ≤ nI t) = False := eq_false (nI_ge ht (by omega))
  have pr9 : prN s t (sB s b 0) ≤ 99 := prN_le hO ht
  obtain ⟨b0, -, b1, -, -, -, b4, -, -⟩ := hO.2.2.1 t ht
  have py9 : pyN s cap b t d ≤ 107 := Nat.le_trans cpN_le (payN_le b1 b4 hd)
  have l0 : (nI (pyN s cap b t d) - nI (prN s t (sB s b 0)) < 0) = (pyN s cap b t d < prN s t (sB s b 0)) := sub_lt0 (by omega) (by omega)
  have l2 : (nI (sB s b 2) < nI (prN s t (sB s b 0))) = (sB s b 2 < prN s t (sB s b 0)) := nltN (by omega) (by omega)
  have hch := chN_lt (on := on) (pr := fun t => prN s t (sB s b 0)) (py := fun t => pyN s cap b t d) (pu := sB s b 2) t
  have e : chN on (fun t => prN s t (sB s b 0)) (fun t => pyN s cap b t d) (sB s b 2) (t + 1) = if on t = true ∧ prN s t (sB s b 0) ≤ pyN s cap b t d ∧ prN s t (sB s b 0) ≤ sB s b 2 ∧ (∀ q, chN on (fun t => prN s t (sB s b 0)) (fun t => pyN s cap b t d) (sB s b 2) t = some q → q.2 < pyN s cap b t d - prN s t (sB s b 0)) then some (t, pyN s cap b t d - prN s t (sB s b 0)) else chN on (fun t => prN s t (sB s b 0)) (fun t => pyN s cap b t d) (sB s b 2) t := rfl
  rw [e] at kk
  generalize hC : chN on (fun t => prN s t (sB s b 0)) (fun t => pyN s cap b t d) (sB s b 2) t = C at kk hch ⊢
  clear e
  by_cases g3 : on t = true
  · by_cases g4 : prN s t (sB s b 0) ≤ pyN s cap b t d
    · by_cases g5 : prN s t (sB s b 0) ≤ sB s b 2
      · have sb : nI (pyN s cap b t d) - nI (prN s t (sB s b 0)) = nI (pyN s cap b t d - prN s t (sB s b 0)) := nI_subN g4
        have l0' : (nI (pyN s cap b t d - prN s t (sB s b 0)) < 0) = False := nlt0 (by omega)
        cases C with
        | none =>
          rw [if_pos ⟨g3, g4, g5, fun q z => by cases z⟩] at kk
          simp only [v185_0, v185_1, v185_2, v185_3, v185_5, v185_6, v185_8, v185_10, v185_11, v185_14, v185_17, v185_18, v185_21, v185_23, v185_24, v185_27, v185_28, v185_30, v185_31, v185_34, v185_35, v185_36, v185_37, v185_38, v185_41, v185_43, v185_44, v185_45, v185_47, v185_48, v185_51, v185_53, v185_54, v185_56, v185_58, v185_61, v185_63, v185_64, v185_67, v185_68, v185_69, v185_70, v185_71, v185_74, v185_75, v185_76, v185_79, v185_81, v185_83, v185_86, v185_88, v185_89, v185_91, v185_93, v185_99, v185_100, hM.f0, hM.f1, hM.f2, hM.f3, hM.f4, hM.f5, hM.f6, hM.f8, hM.f10, hM.f12, hM.f13, hM.f25, hM.f27, hM.f28, hM.f36, hM.f37, hM.f38, hM.f40, hM.k0, hM.k1, hM.k2, hM.k3, hM.k4, hM.k13, hM.k14, hM.k15, hM.k16, hM.k17, hM.k26, hM.k51, hM.k52, hM.k53, hM.k54, hM.k55, hM.k56, hM.k57, hM.k58, hM.n1, hM.n2, hM.n3, hM.n4, hM.n13, hM.n14, hM.n15, hM.n16, hM.n17, hM.n26, hM.n51, hM.n52, hM.n53, hM.n54, hM.n55, hM.n56, hM.n57, hM.n58, vrf_s, true_or, or_true, true_and, and_true, and_self, not_false_eq_true, ib7_0, ib7_1, ib7_2, ib7_3, ib7_4, ib7_5, ib7_6, ib3_0, ib3_1, ib3_2, ib4_0, ib4_1, ib4_2, ib4_3, tc0, tc1, tc2, tc3, tc4, tc5, tc6, u1, u2, u3, c1, c2, i1, i2, f0, f2, e9, eo, lt, reduceIte, g3, z2_t, i10, c176 hM hP hO ht g0, c184 hM hP hO hc hb ht hd, pu_s, sb, l0', l2, Nat.not_lt.mpr g5, chT, chV, oI, Option.map_none, nI_1]
          exact kk _ _
        | some q =>
          obtain ⟨w1, w2, w3, w4⟩ := hch q rfl
          have pq9 : pyN s cap b q.1 d ≤ 107 := by
            obtain ⟨b0, -, b1, -, -, -, b4, -, -⟩ := hO.2.2.1 q.1 (by omega)
            exact Nat.le_trans cpN_le (payN_le b1 b4 hd)
          have l3 : (nI (pyN s cap b t d - prN s t (sB s b 0)) ≤ nI q.2) = (pyN s cap b t d - prN s t (sB s b 0) ≤ q.2) := nleN (by omega) (by omega)
          have l4 : (nI q.1 = -1) = False := nm1 (by omega)
          by_cases g6 : q.2 < pyN s cap b t d - prN s t (sB s b 0)
          · rw [if_pos ⟨g3, g4, g5, fun q1 z => by cases z; exact g6⟩] at kk
            simp only [v185_0, v185_1, v185_2, v185_3, v185_5, v185_6, v185_8, v185_10, v185_11, v185_14, v185_17, v185_18, v185_21, v185_23, v185_24, v185_27, v185_28, v185_30, v185_31, v185_34, v185_35, v185_36, v185_37, v185_38, v185_41, v185_43, v185_44, v185_45, v185_47, v185_48, v185_51, v185_53, v185_54, v185_56, v185_58, v185_61, v185_63, v185_64, v185_67, v185_68, v185_69, v185_70, v185_71, v185_74, v185_75, v185_76, v185_79, v185_81, v185_83, v185_86, v185_88, v185_89, v185_91, v185_93, v185_99, v185_100, hM.f0, hM.f1, hM.f2, hM.f3, hM.f4, hM.f5, hM.f6, hM.f8, hM.f10, hM.f12, hM.f13, hM.f25, hM.f27, hM.f28, hM.f36, hM.f37, hM.f38, hM.f40, hM.k0, hM.k1, hM.k2, hM.k3, hM.k4, hM.k13, hM.k14, hM.k15, hM.k16, hM.k17, hM.k26, hM.k51, hM.k52, hM.k53, hM.k54, hM.k55, hM.k56, hM.k57, hM.k58, hM.n1, hM.n2, hM.n3, hM.n4, hM.n13, hM.n14, hM.n15, hM.n16, hM.n17, hM.n26, hM.n51, hM.n52, hM.n53, hM.n54, hM.n55, hM.n56, hM.n57, hM.n58, vrf_s, true_or, or_true, true_and, and_true, and_self, not_false_eq_true, ib7_0, ib7_1, ib7_2, ib7_3, ib7_4, ib7_5, ib7_6, ib3_0, ib3_1, ib3_2, ib4_0, ib4_1, ib4_2, ib4_3, tc0, tc1, tc2, tc3, tc4, tc5, tc6, u1, u2, u3, c1, c2, i1, i2, f0, f2, e9, eo, lt, reduceIte, g3, z2_t, i10, c176 hM hP hO ht g0, c184 hM hP hO hc hb ht hd, pu_s, sb, l0', l2, Nat.not_lt.mpr g5, chT, chV, oI, Option.map_some, nI_1, l3, l4, Nat.not_le.mpr g6]
            exact kk _ _
          · rw [if_neg (fun z => g6 (z.2.2.2 q rfl))] at kk
            simp only [v185_0, v185_1, v185_2, v185_3, v185_5, v185_6, v185_8, v185_10, v185_11, v185_14, v185_17, v185_18, v185_21, v185_23, v185_24, v185_27, v185_28, v185_30, v185_31, v185_34, v185_35, v185_36, v185_37, v185_38, v185_41, v185_43, v185_44, v185_45, v185_47, v185_48, v185_51, v185_53, v185_54, v185_56, v185_58, v185_61, v185_63, v185_64, v185_67, v185_68, v185_69, v185_70, v185_71, v185_74, v185_75, v185_76, v185_79, v185_81, v185_83, v185_86, v185_88, v185_89, v185_91, v185_93, v185_99, v185_100, hM.f0, hM.f1, hM.f2, hM.f3, hM.f4, hM.f5, hM.f6, hM.f8, hM.f10, hM.f12, hM.f13, hM.f25, hM.f27, hM.f28, hM.f36, hM.f37, hM.f38, hM.f40, hM.k0, hM.k1, hM.k2, hM.k3, hM.k4, hM.k13, hM.k14, hM.k15, hM.k16, hM.k17, hM.k26, hM.k51, hM.k52, hM.k53, hM.k54, hM.k55, hM.k56, hM.k57, hM.k58, hM.n1, hM.n2, hM.n3, hM.n4, hM.n13, hM.n14, hM.n15, hM.n16, hM.n17, hM.n26, hM.n51, hM.n52, hM.n53, hM.n54, hM.n55, hM.n56, hM.n57, hM.n58, vrf_s, true_or, or_true, true_and, and_true, and_self, not_false_eq_true, ib7_0, ib7_1, ib7_2, ib7_3, ib7_4, ib7_5, ib7_6, ib3_0, ib3_1, ib3_2, ib4_0, ib4_1, ib4_2, ib4_3, tc0, tc1, tc2, tc3, tc4, tc5, tc6, u1, u2, u3, c1, c2, i1, i2, f0, f2, e9, eo, lt, reduceIte, g3, z2_t, i10, c176 hM hP hO ht g0, c184 hM hP hO hc hb ht hd, pu_s, sb, l0', l2, Nat.not_lt.mpr g5, chT, chV, oI, Option.map_some, nI_1, l3, l4, Nat.not_lt.mp g6]
            exact kk _ _
      · rw [if_neg (fun z => g5 z.2.2.1)] at kk
        simp only [v185_0, v185_1, v185_2, v185_3, v185_5, v185_6, v185_8, v185_10, v185_11, v185_14, v185_17, v185_18, v185_21, v185_23, v185_24, v185_27, v185_28, v185_30, v185_31, v185_34, v185_35, v185_36, v185_37, v185_38, v185_41, v185_43, v185_44, v185_45, v185_47, v185_48, v185_51, v185_53, v185_54, v185_56, v185_58, v185_61, v185_63, v185_64, v185_67, v185_68, v185_69, v185_70, v185_71, v185_74, v185_75, v185_76, v185_79, v185_81, v185_83, v185_86, v185_88, v185_89, v185_91, v185_93, v185_99, v185_100, hM.f0, hM.f1, hM.f2, hM.f3, hM.f4, hM.f5, hM.f6, hM.f8, hM.f10, hM.f12, hM.f13, hM.f25, hM.f27, hM.f28, hM.f36, hM.f37, hM.f38, hM.f40, hM.k0, hM.k1, hM.k2, hM.k3, hM.k4, hM.k13, hM.k14, hM.k15, hM.k16, hM.k17, hM.k26, hM.k51, hM.k52, hM.k53, hM.k54, hM.k55, hM.k56, hM.k57, hM.k58, hM.n1, hM.n2, hM.n3, hM.n4, hM.n13, hM.n14, hM.n15, hM.n16, hM.n17, hM.n26, hM.n51, hM.n52, hM.n53, hM.n54, hM.n55, hM.n56, hM.n57, hM.n58, vrf_s, true_or, or_true, true_and, and_true, and_self, not_false_eq_true, ib7_0, ib7_1, ib7_2, ib7_3, ib7_4, ib7_5, ib7_6, ib3_0, ib3_1, ib3_2, ib4_0, ib4_1, ib4_2, ib4_3, tc0, tc1, tc2, tc3, tc4, tc5, tc6, u1, u2, u3, c1, c2, i1, i2, f0, f2, e9, eo, lt, reduceIte, g3, z2_t, i10, c176 hM hP hO ht g0, c184 hM hP hO hc hb ht hd, pu_s, l0, Nat.not_lt.mpr g4, l2, Nat.not_le.mp g5, nI_1]
        exact kk _ _
    · rw [if_neg (fun z => g4 z.2.1)] at kk
      simp only [v185_0, v185_1, v185_2, v185_3, v185_5, v185_6, v185_8, v185_10, v185_11, v185_14, v185_17, v185_18, v185_21, v185_23, v185_24, v185_27, v185_28, v185_30, v185_31, v185_34, v185_35, v185_36, v185_37, v185_38, v185_41, v185_43, v185_44, v185_45, v185_47, v185_48, v185_51, v185_53, v185_54, v185_56, v185_58, v185_61, v185_63, v185_64, v185_67, v185_68, v185_69, v185_70, v185_71, v185_74, v185_75, v185_76, v185_79, v185_81, v185_83, v185_86, v185_88, v185_89, v185_91, v185_93, v185_99, v185_100, hM.f0, hM.f1, hM.f2, hM.f3, hM.f4, hM.f5, hM.f6, hM.f8, hM.f10, hM.f12, hM.f13, hM.f25, hM.f27, hM.f28, hM.f36, hM.f37, hM.f38, hM.f40, hM.k0, hM.k1, hM.k2, hM.k3, hM.k4, hM.k13, hM.k14, hM.k15, hM.k16, hM.k17, hM.k26, hM.k51, hM.k52, hM.k53, hM.k54, hM.k55, hM.k56, hM.k57, hM.k58, hM.n1, hM.n2, hM.n3, hM.n4, hM.n13, hM.n14, hM.n15, hM.n16, hM.n17, hM.n26, hM.n51, hM.n52, hM.n53, hM.n54, hM.n55, hM.n56, hM.n57, hM.n58, vrf_s, true_or, or_true, true_and, and_true, and_self, not_false_eq_true, ib7_0, ib7_1, ib7_2, ib7_3, ib7_4, ib7_5, ib7_6, ib3_0, ib3_1, ib3_2, ib4_0, ib4_1, ib4_2, ib4_3, tc0, tc1, tc2, tc3, tc4, tc5, tc6, u1, u2, u3, c1, c2, i1, i2, f0, f2, e9, eo, lt, reduceIte, g3, z2_t, i10, c176 hM hP hO ht g0, c184 hM hP hO hc hb ht hd, pu_s, l0, Nat.not_le.mp g4, l2, nI_1]
      exact kk _ _
  · have g3' : on t = false := by simpa using g3
    rw [if_neg (fun z => g3 z.1)] at kk
    simp only [v185_0, v185_1, v185_2, v185_3, v185_5, v185_6, v185_8, v185_10, v185_11, v185_14, v185_17, v185_18, v185_21, v185_23, v185_24, v185_27, v185_28, v185_30, v185_31, v185_34, v185_35, v185_36, v185_37, v185_38, v185_41, v185_43, v185_44, v185_45, v185_47, v185_48, v185_51, v185_53, v185_54, v185_56, v185_58, v185_61, v185_63, v185_64, v185_67, v185_68, v185_69, v185_70, v185_71, v185_74, v185_75, v185_76, v185_79, v185_81, v185_83, v185_86, v185_88, v185_89, v185_91, v185_93, v185_99, v185_100, hM.f0, hM.f1, hM.f2, hM.f3, hM.f4, hM.f5, hM.f6, hM.f8, hM.f10, hM.f12, hM.f13, hM.f25, hM.f27, hM.f28, hM.f36, hM.f37, hM.f38, hM.f40, hM.k0, hM.k1, hM.k2, hM.k3, hM.k4, hM.k13, hM.k14, hM.k15, hM.k16, hM.k17, hM.k26, hM.k51, hM.k52, hM.k53, hM.k54, hM.k55, hM.k56, hM.k57, hM.k58, hM.n1, hM.n2, hM.n3, hM.n4, hM.n13, hM.n14, hM.n15, hM.n16, hM.n17, hM.n26, hM.n51, hM.n52, hM.n53, hM.n54, hM.n55, hM.n56, hM.n57, hM.n58, vrf_s, true_or, or_true, true_and, and_true, and_self, not_false_eq_true, ib7_0, ib7_1, ib7_2, ib7_3, ib7_4, ib7_5, ib7_6, ib3_0, ib3_1, ib3_2, ib4_0, ib4_1, ib4_2, ib4_3, tc0, tc1, tc2, tc3, tc4, tc5, tc6, u1, u2, u3, c1, c2, i1, i2, f0, f2, e9, eo, lt, reduceIte, g3', z2_f, nI_1]
    exact kk _ _
theorem c185_l (hM : MSh m h) (hP : MP m s h) (hO : SOk s) {cap : Option (Nat × Nat)} (hc : CP m cap h) {on : Nat → Bool} (hon : ∀ t, t < sN s → gI h (m + 54) t = z2 (on t)) {b d : Nat} (hb : b < sM s) (hd : d ≤ 8)
    (kk : K (some (.int (chT (chN on (fun t => prN s t (sB s b 0)) (fun t => pyN s cap b t d) (sB s b 2) (sN s))))) h) :
    ∀ (j t : Nat) (v6 v7 : Value), t + j = sN s → V 185 8 [.ref m, .int (nI b), .int (nI d), .int (chT (chN on (fun t => prN s t (sB s b 0)) (fun t => pyN s cap b t d) (sB s b 2) t)), .int (chV (chN on (fun t => prN s t (sB s b 0)) (fun t => pyN s cap b t d) (sB s b 2) t)), .int (nI t), v6, v7] [] h K := by
  intro j
  induction j with
  | zero =>
    intro t v6 v7 hi
    have hn := hO.1
    have e : t = sN s := by omega
    subst e
    have e8 : (nI (sN s) ≤ nI (sN s)) = True := eq_true (nI_le (Nat.le_refl _) (by omega))
    simp only [v185_0, v185_1, v185_2, v185_3, v185_5, v185_6, v185_8, v185_10, v185_11, v185_14, v185_17, v185_18, v185_21, v185_23, v185_24, v185_27, v185_28, v185_30, v185_31, v185_34, v185_35, v185_36, v185_37, v185_38, v185_41, v185_43, v185_44, v185_45, v185_47, v185_48, v185_51, v185_53, v185_54, v185_56, v185_58, v185_61, v185_63, v185_64, v185_67, v185_68, v185_69, v185_70, v185_71, v185_74, v185_75, v185_76, v185_79, v185_81, v185_83, v185_86, v185_88, v185_89, v185_91, v185_93, v185_99, v185_100, hM.k0, hP.1, e8, reduceIte, true_and]
    exact kk
  | succ j ih =>
    intro t v6 v7 hi
    refine c185_i hM hP hO hc hon hb (by omega) hd v6 v7 (fun w6 w7 => ?_)
    rw [v185_96]
    exact ih (t + 1) w6 w7 (by omega)
/-- choice -/
theorem c185 (hM : MSh m h) (hP : MP m s h) (hO : SOk s) {cap : Option (Nat × Nat)} (hc : CP m cap h) {on : Nat → Bool} (hon : ∀ t, t < sN s → gI h (m + 54) t = z2 (on t)) {b d : Nat} (hb : b < sM s) (hd : d ≤ 8)
    (kk : K (some (.int (chT (chN on (fun t => prN s t (sB s b 0)) (fun t => pyN s cap b t d) (sB s b 2) (sN s))))) h) : AM 185 [.ref m, .int (nI b), .int (nI d)] h K := by
  simp only [e185, v185_0, v185_1, v185_2, v185_3, v185_5, v185_6]
  exact c185_l hM hP hO hc hon hb hd kk (sN s) 0 un0 un0 (Nat.zero_add _)
def hmN (s : SG) (sold : Nat → Bool) : Nat → Nat
  | 0 => 0
  | t + 1 => hmN s sold t + if sold t = true then 0 else sT s t 2
theorem hmN_le {s : SG} (hO : SOk s) (sold : Nat → Bool) : ∀ t : Nat, t ≤ sN s → hmN s sold t ≤ 9 * t
  | 0, _ => Nat.le_refl _
  | t + 1, ht => by
    have ih := hmN_le hO sold t (by omega)
    have := (hO.2.2.1 t (by omega)).2.2.2.2.1
    unfold hmN
    split <;> omega
theorem c187_l (hM : MSh m h) (hP : MP m s h) (hO : SOk s) {sold : Nat → Bool} (hS : ∀ t, t < 8 → gI h (m + 53) t = z2 (sold t)) : ∀ (j t : Nat), t + j = sN s → V 187 4 [.ref m, .int (nI (hmN s sold t)), .int (nI t)] [] h K = K (some (.int (nI (sA s 3 * hmN s sold (sN s))))) h := by
  intro j
  induction j with
  | zero =>
    intro t hi
    have hn := hO.1
    have e : t = sN s := by omega
    subst e
    have e8 : (nI (sN s) ≤ nI (sN s)) = True := eq_true (nI_le (Nat.le_refl _) (by omega))
    have a3 := hP.a (k := 3) (by omega)
    simp only [v187_0, v187_1, v187_2, v187_3, v187_4, v187_5, v187_6, v187_9, v187_12, v187_13, v187_14, v187_17, v187_18, v187_19, v187_22, v187_23, v187_26, v187_27, v187_30, v187_31, v187_32, v187_33, v187_34, v187_35, v187_36, v187_42, v187_43, v187_46, v187_47, v187_48, v187_49, v187_50, hM.f0, hM.f1, hM.f2, hM.f3, hM.f4, hM.f5, hM.f6, hM.f8, hM.f10, hM.f12, hM.f13, hM.f25, hM.f27, hM.f28, hM.f36, hM.f37, hM.f38, hM.f40, hM.k0, hM.k1, hM.k2, hM.k3, hM.k4, hM.k13, hM.k14, hM.k15, hM.k16, hM.k17, hM.k26, hM.k51, hM.k52, hM.k53, hM.k54, hM.k55, hM.k56, hM.k57, hM.k58, hM.n1, hM.n2, hM.n3, hM.n4, hM.n13, hM.n14, hM.n15, hM.n16, hM.n17, hM.n26, hM.n51, hM.n52, hM.n53, hM.n54, hM.n55, hM.n56, hM.n57, hM.n58, vrf_s, true_or, or_true, true_and, and_true, and_self, not_false_eq_true, ib7_0, ib7_1, ib7_2, ib7_3, ib7_4, ib7_5, ib7_6, ib3_0, ib3_1, ib3_2, ib4_0, ib4_1, ib4_2, ib4_3, tc0, tc1, tc2, tc3, tc4, tc5, tc6, hP.1, e8, reduceIte, a3, nM]
  | succ j ih =>
    intro t hi
    have ht : t < sN s := by omega
    have ht8 : t < 8 := Nat.lt_of_lt_of_le ht hO.1
    have hn := hO.1
    obtain ⟨t1, t2, t3⟩ := hM.th ht8
    have c1 : (nI t).toNatClampNeg = t := nIc (by omega)
    have i1 : inb (nI t) 8 = True := nIb ht8 (by omega)
    have lt : (nI (sN s) ≤ nI t) = False := eq_false (nI_ge ht (by omega))
    have e2 := hP.t ht (k := 2) (by omega)
    refine Eq.trans (b := V 187 39 [.ref m, .int (nI (hmN s sold (t + 1))), .int (nI (t + 1))] [] h K) ?_ ((v187_39 _ _ _ _).trans (ih (t + 1) (by omega)))
    have r : hmN s sold (t + 1) = hmN s sold t + if sold t = true then 0 else sT s t 2 := rfl
    rw [r]
    cases hs : sold t with
    | true => simp only [v187_0, v187_1, v187_2, v187_3, v187_4, v187_5, v187_6, v187_9, v187_12, v187_13, v187_14, v187_17, v187_18, v187_19, v187_22, v187_23, v187_26, v187_27, v187_30, v187_31, v187_32, v187_33, v187_34, v187_35, v187_36, v187_42, v187_43, v187_46, v187_47, v187_48, v187_49, v187_50, hM.f0, hM.f1, hM.f2, hM.f3, hM.f4, hM.f5, hM.f6, hM.f8, hM.f10, hM.f12, hM.f13, hM.f25, hM.f27, hM.f28, hM.f36, hM.f37, hM.f38, hM.f40, hM.k0, hM.k1, hM.k2, hM.k3, hM.k4, hM.k13, hM.k14, hM.k15, hM.k16, hM.k17, hM.k26, hM.k51, hM.k52, hM.k53, hM.k54, hM.k55, hM.k56, hM.k57, hM.k58, hM.n1, hM.n2, hM.n3, hM.n4, hM.n13, hM.n14, hM.n15, hM.n16, hM.n17, hM.n26, hM.n51, hM.n52, hM.n53, hM.n54, hM.n55, hM.n56, hM.n57, hM.n58, vrf_s, true_or, or_true, true_and, and_true, and_self, not_false_eq_true, ib7_0, ib7_1, ib7_2, ib7_3, ib7_4, ib7_5, ib7_6, ib3_0, ib3_1, ib3_2, ib4_0, ib4_1, ib4_2, ib4_3, tc0, tc1, tc2, tc3, tc4, tc5, tc6, t1, t2, t3, c1, i1, hP.1, lt, reduceIte, hS t ht8, hs, z2_t, i10, e2, nI_1, nI_add, Nat.add_zero, Int32.add_zero]
    | false => simp only [v187_0, v187_1, v187_2, v187_3, v187_4, v187_5, v187_6, v187_9, v187_12, v187_13, v187_14, v187_17, v187_18, v187_19, v187_22, v187_23, v187_26, v187_27, v187_30, v187_31, v187_32, v187_33, v187_34, v187_35, v187_36, v187_42, v187_43, v187_46, v187_47, v187_48, v187_49, v187_50, hM.f0, hM.f1, hM.f2, hM.f3, hM.f4, hM.f5, hM.f6, hM.f8, hM.f10, hM.f12, hM.f13, hM.f25, hM.f27, hM.f28, hM.f36, hM.f37, hM.f38, hM.f40, hM.k0, hM.k1, hM.k2, hM.k3, hM.k4, hM.k13, hM.k14, hM.k15, hM.k16, hM.k17, hM.k26, hM.k51, hM.k52, hM.k53, hM.k54, hM.k55, hM.k56, hM.k57, hM.k58, hM.n1, hM.n2, hM.n3, hM.n4, hM.n13, hM.n14, hM.n15, hM.n16, hM.n17, hM.n26, hM.n51, hM.n52, hM.n53, hM.n54, hM.n55, hM.n56, hM.n57, hM.n58, vrf_s, true_or, or_true, true_and, and_true, and_self, not_false_eq_true, ib7_0, ib7_1, ib7_2, ib7_3, ib7_4, ib7_5, ib7_6, ib3_0, ib3_1, ib3_2, ib4_0, ib4_1, ib4_2, ib4_3, tc0, tc1, tc2, tc3, tc4, tc5, tc6, t1, t2, t3, c1, i1, hP.1, lt, reduceIte, hS t ht8, hs, z2_f, i10, e2, nI_1, nI_add, Bool.false_eq_true]
/-- homeNow -/
theorem c187 (hM : MSh m h) (hP : MP m s h) (hO : SOk s) {sold : Nat → Bool} (hS : ∀ t, t < 8 → gI h (m + 53) t = z2 (sold t)) : AM 187 [.ref m] h K = K (some (.int (nI (sA s 3 * hmN s sold (sN s))))) h := by
  simp only [e187, v187_0, v187_1, v187_2, v187_3]
  exact c187_l hM hP hO hS (sN s) 0 (Nat.zero_add _)
end
