/-! counts of bits; THE CLASS'S MORNING at o over the stall at a; its choice -/
def cntN (f : Nat → Bool) : Nat → Nat
  | 0 => 0
  | n + 1 => cntN f n + if f n = true then 1 else 0
theorem cntN_le (f : Nat → Bool) : ∀ n : Nat, cntN f n ≤ n
  | 0 => Nat.le_refl _
  | n + 1 => by have := cntN_le f n; unfold cntN; split <;> omega
theorem cntN_mono {f g : Nat → Bool} (hfg : ∀ i, f i = true → g i = true) : ∀ n : Nat, cntN f n ≤ cntN g n
  | 0 => Nat.le_refl _
  | n + 1 => by
    have ih := cntN_mono hfg n
    unfold cntN
    by_cases hf : f n = true
    · rw [if_pos hf, if_pos (hfg n hf)]; omega
    · rw [if_neg hf]; split <;> omega
theorem cntN_congr {f g : Nat → Bool} : ∀ n : Nat, (∀ i, i < n → f i = g i) → cntN f n = cntN g n
  | 0, _ => rfl
  | n + 1, hfg => by unfold cntN; rw [cntN_congr n (fun i hi => hfg i (by omega)), hfg n (by omega)]
theorem cntN_cut (f : Nat → Bool) {n : Nat} : ∀ j : Nat, cntN (fun i => decide (i < n) && f i) (n + j) = cntN f n
  | 0 => cntN_congr n (fun i hi => by rw [decide_eq_true hi, Bool.true_and])
  | j + 1 => by
    show cntN (fun i => decide (i < n) && f i) (n + j) + (if (decide (n + j < n) && f (n + j)) = true then 1 else 0) = _
    rw [cntN_cut f j, decide_eq_false (by omega), Bool.false_and, if_neg (by decide)]
    rfl
theorem bcF_256 : ∀ X, X < 256 → bcF (nI X) = nI (cntN X.testBit 8) := by decide +kernel
theorem bcF_msk {f : Nat → Bool} {n : Nat} (hn : n ≤ 8) : bcF (nI (msk f n)) = nI (cntN f n) := by
  have h1 : msk f n < 256 := Nat.lt_of_lt_of_le (msk_lt f n) (Nat.pow_le_pow_right (n := 2) (by decide) hn : 2 ^ n ≤ 2 ^ 8)
  rw [bcF_256 _ h1]
  congr 1
  rw [cntN_congr (g := fun i => decide (i < n) && f i) 8 (fun i _ => msk_t f n i)]
  have := cntN_cut f (n := n) (8 - n)
  rw [show n + (8 - n) = 8 by omega] at this
  exact this
theorem msk_and (f g : Nat → Bool) (n : Nat) : msk f n &&& msk g n = msk (fun i => f i && g i) n := by
  apply Nat.eq_of_testBit_eq
  intro i
  rw [Nat.testBit_and, msk_t, msk_t, msk_t]
  cases decide (i < n) <;> cases f i <;> cases g i <;> rfl
/-- what draws -/
def dwB (s : SG) (t : Nat) : Bool := decide (sT s t 0 = 2)
theorem drN_cnt (s : SG) (sold : Nat → Bool) (hr : Nat) : ∀ n : Nat, drN s sold hr n = cntN (fun i => onN s sold hr i && dwB s i) n
  | 0 => rfl
  | n + 1 => by
    unfold drN cntN
    rw [drN_cnt s sold hr n]
    congr 1
    unfold dwB
    by_cases h1 : onN s sold hr n = true
    · by_cases h2 : sT s n 0 = 2
      · simp [h1, h2]
      · simp [h1, h2]
    · simp [h1]
theorem chN_congr {on on' : Nat → Bool} {pr py py' : Nat → Nat} {pu : Nat} : ∀ n : Nat, (∀ t, t < n → on t = on' t ∧ py t = py' t) → chN on pr py pu n = chN on' pr py' pu n
  | 0, _ => rfl
  | n + 1, hc => by
    unfold chN
    rw [chN_congr n (fun t ht => hc t (by omega)), (hc n (by omega)).1, (hc n (by omega)).2]
/-- the class's morning object -/
def OSh (o a : Nat) (h : Hp) : Prop := gK h o = 1 ∧ gR h o 0 = some (o + 1) ∧ gR h o 1 = some (o + 2) ∧ gR h o 2 = some (o + 3) ∧ gR h o 3 = some (o + 4) ∧ gR h o 9 = some (o + 5) ∧ gR h o 10 = some (o + 6) ∧ gR h o 8 = some a ∧
  gK h (o + 1) = 8 ∧ gK h (o + 2) = 8 ∧ gK h (o + 3) = 8 ∧ gK h (o + 4) = 8 ∧ gK h (o + 5) = 8 ∧ gK h (o + 6) = 8 ∧ gN h (o + 1) = 8 ∧ gN h (o + 2) = 24 ∧ gN h (o + 3) = 24 ∧ gN h (o + 4) = 7 ∧ gN h (o + 5) = 288 ∧ gN h (o + 6) = 8
/-- its table of pays, made for the stall s -/
def OT (o : Nat) (s : SG) (cap : Option (Nat × Nat)) (h : Hp) : Prop := gI h o 11 = nI (msk (dwB s) (sN s)) ∧ ∀ so t d, so < 4 → t < sN s → d ≤ cntN (dwB s) (sN s) → gI h (o + 5) ((so * 8 + t) * 9 + d) = nI (cpN cap t (payN so (sT s t 0) (sT s t 1) (sT s t 4) d))
def chM (o : Option (Nat × Nat)) : Int32 := match o with
  | none => -1
  | some q => nI q.2
theorem overI {a c q : Nat} (ha : a ≤ 1000000) (hc : c ≤ 1000000) (hq : q ≤ 1000000) : (nI a - nI c ≤ nI q) = (a ≤ c + q) := by
  apply propext
  rw [Int32.le_iff_toInt_le, Int32.toInt_sub, nI_toInt (by omega), nI_toInt (by omega), nI_toInt (by omega)]
  simp only [Int.bmod]
  split <;> omega
theorem overM {a c : Nat} (ha : a ≤ 1000000) (hc : c ≤ 1000000) : (nI a - nI c ≤ -1) = (a < c) := by
  apply propext
  rw [Int32.le_iff_toInt_le, Int32.toInt_sub, nI_toInt (by omega), nI_toInt (by omega)]
  simp only [Int.bmod]
  rw [show (-1 : Int32).toInt = -1 from rfl]
  split <;> omega
section
variable {o a : Nat} {ρ β : Nat → Nat} {s : SG} {h h1 : Hp} {K : Option Value → Hp → Prop}
theorem c11_l (hS : OSh o a h) (hQ : SQ a ρ β h) (hP : SV a ρ β s h) (hO : SOk s) {cap : Option (Nat × Nat)} (hT : OT o s cap h) {b d hr X : Nat} (hb : b < sM s) (hd : d ≤ cntN (dwB s) (sN s)) (hX : gI h o 14 = nI X) (hpr : ∀ t, t < sN s → gI h (o + 6) t = nI (prN s t hr)) :
    ∀ (j t : Nat) (v6 : Value), t + j = sN s → V 11 21 [.ref o, .ref (β b), .int (nI d), .int (chT (chN X.testBit (fun t => prN s t hr) (fun t => pyN s cap b t d) (sB s b 2) t)), .int (chM (chN X.testBit (fun t => prN s t hr) (fun t => pyN s cap b t d) (sB s b 2) t)), .int (nI t), v6] [] h K = K (some (.int (chT (chN X.testBit (fun t => prN s t hr) (fun t => pyN s cap b t d) (sB s b 2) (sN s))))) h := by
  have hn8 := hO.1
  have hb8 : b < 24 := Nat.lt_of_lt_of_le hb hO.2.1
  have hc8 := Nat.le_trans hd (cntN_le (dwB s) (sN s))
  obtain ⟨w1, w2, w3, w4, w5, w6, w7, w8, w9, w10, w11, w12, w13, w14, w15, w16, w17, w18, w19, w20⟩ := hS
  obtain ⟨s1, s2, s3, s4, s5, s6, s7, s8, s9, s10, -⟩ := id hQ
  obtain ⟨u1, u2, u3, -, -⟩ := hQ.by hb8
  have f1 := hP.b hb (k := 1) (by omega)
  have f2 := hP.b hb (k := 2) (by omega)
  obtain ⟨g0, g1, -, g2⟩ := hO.2.2.2.1 b hb
  intro j
  induction j with
  | zero =>
    intro t v6 hi
    have e : t = sN s := by omega
    subst e
    have e8 : (nI (sN s) ≤ nI (sN s)) = True := eq_true (nI_le (Nat.le_refl _) (by omega))
    simp only [v11_0, v11_1, v11_4, v11_5, v11_8, v11_9, v11_12, v11_13, v11_14, v11_15, v11_16, v11_18, v11_19, v11_21, v11_23, v11_24, v11_27, v11_30, v11_33, v11_34, v11_37, v11_39, v11_42, v11_45, v11_46, v11_49, v11_51, v11_52, v11_53, v11_54, v11_55, v11_58, v11_59, v11_62, v11_63, v11_64, v11_65, v11_67, v11_68, v11_71, v11_72, v11_73, v11_76, v11_78, v11_79, v11_80, v11_82, v11_84, v11_86, v11_89, v11_91, v11_93, v11_95, v11_96, v11_102, v11_103, w1, w8, vrf_s, s1, hP.1, e8, reduceIte, true_and]
  | succ j ih =>
    intro t v6 hi
    have ht : t < sN s := by omega
    have ht8 : t < 8 := by omega
    have c1 : (nI t).toNatClampNeg = t := nIc (by omega)
    have i1 : inb (nI t) 8 = True := nIb ht8 (by omega)
    have lt : (nI (sN s) ≤ nI t) = False := eq_false (nI_ge ht (by omega))
    have bi := bitI_N X t (by omega)
    have pr9 : prN s t hr ≤ 99 := prN_le hO ht
    obtain ⟨b0, -, b1, -, -, -, b4, -, -⟩ := hO.2.2.1 t ht
    have py9 : pyN s cap b t d ≤ 107 := Nat.le_trans cpN_le (payN_le b1 b4 (by omega))
    have ep := hpr t ht
    have ey : gI h (o + 5) ((sB s b 1 * 8 + t) * 9 + d) = nI (pyN s cap b t d) := hT.2 _ t d (by omega) ht hd
    have ix : (nI (sB s b 1) * 8 + nI t) * 9 + nI d = nI ((sB s b 1 * 8 + t) * 9 + d) := by rw [show nI (sB s b 1) * 8 = nI (sB s b 1 * 8) from nI_mul _ 8, nI_add, nM9, nI_add]
    have cx : (nI ((sB s b 1 * 8 + t) * 9 + d)).toNatClampNeg = (sB s b 1 * 8 + t) * 9 + d := nIc (by omega)
    have i2 : inb (nI ((sB s b 1 * 8 + t) * 9 + d)) 288 = True := nIb (by omega) (by omega)
    have l2 : (nI (sB s b 2) < nI (prN s t hr)) = (sB s b 2 < prN s t hr) := nltN (by omega) (by omega)
    have hch := chN_lt (on := X.testBit) (pr := fun t => prN s t hr) (py := fun t => pyN s cap b t d) (pu := sB s b 2) t
    have e : chN X.testBit (fun t => prN s t hr) (fun t => pyN s cap b t d) (sB s b 2) (t + 1) = if X.testBit t = true ∧ prN s t hr ≤ pyN s cap b t d ∧ prN s t hr ≤ sB s b 2 ∧ (∀ q, chN X.testBit (fun t => prN s t hr) (fun t => pyN s cap b t d) (sB s b 2) t = some q → q.2 < pyN s cap b t d - prN s t hr) then some (t, pyN s cap b t d - prN s t hr) else chN X.testBit (fun t => prN s t hr) (fun t => pyN s cap b t d) (sB s b 2) t := rfl
    have ih1 : ∀ v6 : Value, V 11 99 [.ref o, .ref (β b), .int (nI d), .int (chT (chN X.testBit (fun t => prN s t hr) (fun t => pyN s cap b t d) (sB s b 2) (t + 1))), .int (chM (chN X.testBit (fun t => prN s t hr) (fun t => pyN s cap b t d) (sB s b 2) (t + 1))), .int (nI (t + 1)), v6] [] h K = K (some (.int (chT (chN X.testBit (fun t => prN s t hr) (fun t => pyN s cap b t d) (sB s b 2) (sN s))))) h := fun v6 => (v11_99 _ _ _ _).trans (ih (t + 1) v6 (by omega))
    rw [e] at ih1
    generalize hC : chN X.testBit (fun t => prN s t hr) (fun t => pyN s cap b t d) (sB s b 2) t = C at ih1 hch ⊢
    clear e ih
    generalize K (some (.int (chT (chN X.testBit (fun t => prN s t hr) (fun t => pyN s cap b t d) (sB s b 2) (sN s))))) h = Z at ih1 ⊢
    by_cases g3 : X.testBit t = true
    · by_cases g5 : prN s t hr ≤ sB s b 2
      · cases C with
        | none =>
          have lm := overM (a := pyN s cap b t d) (c := prN s t hr) (by omega) (by omega)
          by_cases g4 : prN s t hr ≤ pyN s cap b t d
          · have sb : nI (pyN s cap b t d) - nI (prN s t hr) = nI (pyN s cap b t d - prN s t hr) := nI_subN g4
            rw [sb] at lm
            rw [if_pos ⟨g3, g4, g5, fun q z => by cases z⟩] at ih1
            rw [← ih1 (.int (nI (pyN s cap b t d - prN s t hr)))]
            simp only [v11_0, v11_1, v11_4, v11_5, v11_8, v11_9, v11_12, v11_13, v11_14, v11_15, v11_16, v11_18, v11_19, v11_21, v11_23, v11_24, v11_27, v11_30, v11_33, v11_34, v11_37, v11_39, v11_42, v11_45, v11_46, v11_49, v11_51, v11_52, v11_53, v11_54, v11_55, v11_58, v11_59, v11_62, v11_63, v11_64, v11_65, v11_67, v11_68, v11_71, v11_72, v11_73, v11_76, v11_78, v11_79, v11_80, v11_82, v11_84, v11_86, v11_89, v11_91, v11_93, v11_95, v11_96, v11_102, v11_103, w1, w5, w6, w7, w8, w13, w14, w19, w20, vrf_s, s1, hP.1, lt, reduceIte, true_and, true_or, and_self, ib7_0, ib7_1, ib7_2, ib7_3, ib7_4, ib7_5, ib7_6, ib3_0, ib3_1, ib3_2, ib4_0, ib4_1, ib4_2, ib4_3, tc0, tc1, tc2, tc3, tc4, tc5, tc6, u2, u3, f1, f2, c1, i1, c127, bi, g3, hX, pu_s, z2_t, i10, ep, l2, Nat.not_lt.mpr g5, c2, ix, cx, i2, ey, sb, chT, chM, oI, Option.map_none, Option.map_some, lm, Nat.not_lt.mpr g4, nI_1]
          · rw [if_neg (fun z => g4 z.2.1)] at ih1
            rw [← ih1 (.int (nI (pyN s cap b t d) - nI (prN s t hr)))]
            simp only [v11_0, v11_1, v11_4, v11_5, v11_8, v11_9, v11_12, v11_13, v11_14, v11_15, v11_16, v11_18, v11_19, v11_21, v11_23, v11_24, v11_27, v11_30, v11_33, v11_34, v11_37, v11_39, v11_42, v11_45, v11_46, v11_49, v11_51, v11_52, v11_53, v11_54, v11_55, v11_58, v11_59, v11_62, v11_63, v11_64, v11_65, v11_67, v11_68, v11_71, v11_72, v11_73, v11_76, v11_78, v11_79, v11_80, v11_82, v11_84, v11_86, v11_89, v11_91, v11_93, v11_95, v11_96, v11_102, v11_103, w1, w5, w6, w7, w8, w13, w14, w19, w20, vrf_s, s1, hP.1, lt, reduceIte, true_and, true_or, and_self, ib7_0, ib7_1, ib7_2, ib7_3, ib7_4, ib7_5, ib7_6, ib3_0, ib3_1, ib3_2, ib4_0, ib4_1, ib4_2, ib4_3, tc0, tc1, tc2, tc3, tc4, tc5, tc6, u2, u3, f1, f2, c1, i1, c127, bi, g3, hX, pu_s, z2_t, i10, ep, l2, Nat.not_lt.mpr g5, c2, ix, cx, i2, ey, chT, chM, oI, Option.map_none, Option.map_some, lm, Nat.not_le.mp g4, nI_1]
        | some q =>
          obtain ⟨x1, x2, x3, x4⟩ := hch q rfl
          have pq9 : pyN s cap b q.1 d ≤ 107 := by
            obtain ⟨b0, -, b1, -, -, -, b4, -, -⟩ := hO.2.2.1 q.1 (by omega)
            exact Nat.le_trans cpN_le (payN_le b1 b4 (by omega))
          have lm := overI (a := pyN s cap b t d) (c := prN s t hr) (q := q.2) (by omega) (by omega) (by omega)
          by_cases g4 : pyN s cap b t d ≤ prN s t hr + q.2
          · rw [if_neg (fun z => by have := z.2.2.2 q rfl; omega)] at ih1
            rw [← ih1 (.int (nI (pyN s cap b t d) - nI (prN s t hr)))]
            simp only [v11_0, v11_1, v11_4, v11_5, v11_8, v11_9, v11_12, v11_13, v11_14, v11_15, v11_16, v11_18, v11_19, v11_21, v11_23, v11_24, v11_27, v11_30, v11_33, v11_34, v11_37, v11_39, v11_42, v11_45, v11_46, v11_49, v11_51, v11_52, v11_53, v11_54, v11_55, v11_58, v11_59, v11_62, v11_63, v11_64, v11_65, v11_67, v11_68, v11_71, v11_72, v11_73, v11_76, v11_78, v11_79, v11_80, v11_82, v11_84, v11_86, v11_89, v11_91, v11_93, v11_95, v11_96, v11_102, v11_103, w1, w5, w6, w7, w8, w13, w14, w19, w20, vrf_s, s1, hP.1, lt, reduceIte, true_and, true_or, and_self, ib7_0, ib7_1, ib7_2, ib7_3, ib7_4, ib7_5, ib7_6, ib3_0, ib3_1, ib3_2, ib4_0, ib4_1, ib4_2, ib4_3, tc0, tc1, tc2, tc3, tc4, tc5, tc6, u2, u3, f1, f2, c1, i1, c127, bi, g3, hX, pu_s, z2_t, i10, ep, l2, Nat.not_lt.mpr g5, c2, ix, cx, i2, ey, chT, chM, oI, Option.map_none, Option.map_some, lm, g4, nI_1]
          · have sb : nI (pyN s cap b t d) - nI (prN s t hr) = nI (pyN s cap b t d - prN s t hr) := nI_subN (by omega)
            rw [sb] at lm
            rw [if_pos ⟨g3, by omega, g5, fun q1 z => by cases z; omega⟩] at ih1
            rw [← ih1 (.int (nI (pyN s cap b t d - prN s t hr)))]
            simp only [v11_0, v11_1, v11_4, v11_5, v11_8, v11_9, v11_12, v11_13, v11_14, v11_15, v11_16, v11_18, v11_19, v11_21, v11_23, v11_24, v11_27, v11_30, v11_33, v11_34, v11_37, v11_39, v11_42, v11_45, v11_46, v11_49, v11_51, v11_52, v11_53, v11_54, v11_55, v11_58, v11_59, v11_62, v11_63, v11_64, v11_65, v11_67, v11_68, v11_71, v11_72, v11_73, v11_76, v11_78, v11_79, v11_80, v11_82, v11_84, v11_86, v11_89, v11_91, v11_93, v11_95, v11_96, v11_102, v11_103, w1, w5, w6, w7, w8, w13, w14, w19, w20, vrf_s, s1, hP.1, lt, reduceIte, true_and, true_or, and_self, ib7_0, ib7_1, ib7_2, ib7_3, ib7_4, ib7_5, ib7_6, ib3_0, ib3_1, ib3_2, ib4_0, ib4_1, ib4_2, ib4_3, tc0, tc1, tc2, tc3, tc4, tc5, tc6, u2, u3, f1, f2, c1, i1, c127, bi, g3, hX, pu_s, z2_t, i10, ep, l2, Nat.not_lt.mpr g5, c2, ix, cx, i2, ey, sb, chT, chM, oI, Option.map_none, Option.map_some, lm, g4, nI_1]
      · rw [if_neg (fun z => g5 z.2.2.1)] at ih1
        rw [← ih1 v6]
        simp only [v11_0, v11_1, v11_4, v11_5, v11_8, v11_9, v11_12, v11_13, v11_14, v11_15, v11_16, v11_18, v11_19, v11_21, v11_23, v11_24, v11_27, v11_30, v11_33, v11_34, v11_37, v11_39, v11_42, v11_45, v11_46, v11_49, v11_51, v11_52, v11_53, v11_54, v11_55, v11_58, v11_59, v11_62, v11_63, v11_64, v11_65, v11_67, v11_68, v11_71, v11_72, v11_73, v11_76, v11_78, v11_79, v11_80, v11_82, v11_84, v11_86, v11_89, v11_91, v11_93, v11_95, v11_96, v11_102, v11_103, w1, w5, w6, w7, w8, w13, w14, w19, w20, vrf_s, s1, hP.1, lt, reduceIte, true_and, true_or, and_self, ib7_0, ib7_1, ib7_2, ib7_3, ib7_4, ib7_5, ib7_6, ib3_0, ib3_1, ib3_2, ib4_0, ib4_1, ib4_2, ib4_3, tc0, tc1, tc2, tc3, tc4, tc5, tc6, u2, u3, f1, f2, c1, i1, c127, bi, g3, hX, pu_s, z2_t, i10, ep, l2, Nat.not_le.mp g5, nI_1]
    · have g3' : X.testBit t = false := by simpa using g3
      rw [if_neg (fun z => g3 z.1)] at ih1
      rw [← ih1 v6]
      simp only [v11_0, v11_1, v11_4, v11_5, v11_8, v11_9, v11_12, v11_13, v11_14, v11_15, v11_16, v11_18, v11_19, v11_21, v11_23, v11_24, v11_27, v11_30, v11_33, v11_34, v11_37, v11_39, v11_42, v11_45, v11_46, v11_49, v11_51, v11_52, v11_53, v11_54, v11_55, v11_58, v11_59, v11_62, v11_63, v11_64, v11_65, v11_67, v11_68, v11_71, v11_72, v11_73, v11_76, v11_78, v11_79, v11_80, v11_82, v11_84, v11_86, v11_89, v11_91, v11_93, v11_95, v11_96, v11_102, v11_103, w1, w5, w6, w7, w8, w13, w14, w19, w20, vrf_s, s1, hP.1, lt, reduceIte, true_and, true_or, and_self, ib7_0, ib7_1, ib7_2, ib7_3, ib7_4, ib7_5, ib7_6, ib3_0, ib3_1, ib3_2, ib4_0, ib4_1, ib4_2, ib4_3, tc0, tc1, tc2, tc3, tc4, tc5, tc6, u2, u3, f1, f2, c1, i1, c127, bi, g3', hX, pu_s, z2_f, nI_1]
/-- choice -/
theorem c11 (hS : OSh o a h) (hQ : SQ a ρ β h) (hP : SV a ρ β s h) (hO : SOk s) {cap : Option (Nat × Nat)} (hT : OT o s cap h) {b hr : Nat} {sold : Nat → Bool} (hb : b < sM s) (hX : gI h o 14 = nI (msk (onN s sold hr) (sN s))) (hpr : ∀ t, t < sN s → gI h (o + 6) t = nI (prN s t hr)) :
    AM 11 [.ref o, .ref (β b)] h K = K (some (.int (chT (chN (onN s sold hr) (fun t => prN s t hr) (fun t => pyN s cap b t (drN s sold hr (sN s))) (sB s b 2) (sN s))))) h := by
  have e1 : nI (msk (onN s sold hr) (sN s)) &&& nI (msk (dwB s) (sN s)) = nI (msk (fun i => onN s sold hr i && dwB s i) (sN s)) := by rw [nAnd, msk_and]
  have e2 : bcF (nI (msk (fun i => onN s sold hr i && dwB s i) (sN s))) = nI (drN s sold hr (sN s)) := by rw [bcF_msk hO.1, drN_cnt]
  have hd : drN s sold hr (sN s) ≤ cntN (dwB s) (sN s) := by
    rw [drN_cnt]
    exact cntN_mono (fun i hi => by simp only [Bool.and_eq_true] at hi; exact hi.2) _
  have w1 := hS.1
  simp only [e11, v11_0, v11_1, v11_4, v11_5, v11_8, v11_9, v11_12, v11_13, v11_14, v11_15, v11_16, v11_18, v11_19, w1, hX, hT.1, true_and, e1, c237, e2, pu_s]
  refine (c11_l hS hQ hP hO hT hb hd hX hpr (sN s) 0 un0 (Nat.zero_add _)).trans ?_
  rw [chN_congr (on' := onN s sold hr) (py' := fun t => pyN s cap b t (drN s sold hr (sN s))) (sN s) (fun t ht => ⟨by rw [msk_t, decide_eq_true ht, Bool.true_and], rfl⟩)]
end
