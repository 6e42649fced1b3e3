/-! what a sort pays, what a thing costs: both sides by the same numbers -/
theorem nI_mul (a b : Nat) : nI a * nI b = nI (a * b) := (Int32.ofNat_mul a b).symm
theorem nI_subN {a b : Nat} (h : b ≤ a) : nI a - nI b = nI (a - b) := by
  have e : nI a = nI (a - b) + nI b := by rw [nI_add, Nat.sub_add_cancel h]
  rw [e, Int32.add_sub_cancel]
theorem nI_divN {a b : Nat} (ha : a < 2 ^ 31) (hb : b < 2 ^ 31) : nI a / nI b = nI (a / b) := by
  apply Int32.toInt_inj.mp
  have hq := Nat.div_le_self a b
  rw [Int32.toInt_div, nI_toInt ha, nI_toInt hb, nI_toInt (Nat.lt_of_le_of_lt hq ha), ← Int.ofNat_tdiv]
  generalize a / b = q at hq
  simp only [Int.bmod]
  split <;> omega
theorem nM (a c : Nat) : nI a * nI c = nI (a * c) := nI_mul a c
theorem nM2 (a : Nat) : nI a * 2 = nI (a * 2) := nI_mul a 2
theorem nM3 (a : Nat) : nI a * 3 = nI (a * 3) := nI_mul a 3
theorem nM5 (a : Nat) : nI a * 5 = nI (a * 5) := nI_mul a 5
theorem nM6 (a : Nat) : nI a * 6 = nI (a * 6) := nI_mul a 6
theorem nM9 (a : Nat) : nI a * 9 = nI (a * 9) := nI_mul a 9
theorem nD10 {a : Nat} (ha : a < 2 ^ 31) : nI a / 10 = nI (a / 10) := nI_divN ha (b := 10) (by decide)
theorem nD100 {a : Nat} (ha : a < 2 ^ 31) : nI a / 100 = nI (a / 100) := nI_divN ha (b := 100) (by decide)
theorem nS10 {a : Nat} (ha : a ≤ 10) : 10 - nI a = nI (10 - a) := nI_subN (a := 10) ha
theorem nS1 {a : Nat} (ha : 1 ≤ a) : nI a - 1 = nI (a - 1) := nI_subN (b := 1) ha
theorem n0lt {a : Nat} (ha : a < 2 ^ 31) : (0 < nI a) = (0 < a) := propext (nI_ltI (a := 0) (by decide) ha)
theorem nlt0 {a : Nat} (ha : a < 2 ^ 31) : (nI a < 0) = False := eq_false (nI_pos ha)
theorem nltN {a c : Nat} (ha : a < 2 ^ 31) (hc : c < 2 ^ 31) : (nI a < nI c) = (a < c) := propext (nI_ltI ha hc)
theorem nleN {a c : Nat} (ha : a < 2 ^ 31) (hc : c < 2 ^ 31) : (nI a ≤ nI c) = (a ≤ c) := propext (nI_leI ha hc)
theorem neqN {a c : Nat} (ha : a < 2 ^ 31) (hc : c < 2 ^ 31) : (nI a = nI c) = (a = c) := propext (nI_eq ha hc)
theorem nite {P : Prop} [Decidable P] (a c : Nat) : (if P then nI a else nI c) = nI (if P then a else c) := by split <;> rfl
def tms (s : Nat) : Nat := if s = 0 then 5 else if s = 1 then 6 else if s = 2 then 3 else 2
def payN (s k w a d : Nat) : Nat :=
  if k = 1 then (if s = 0 then w * 9 / 10 else w * tms s / 10 + d)
  else if k = 4 then (if s = 0 then w * 9 / 10 else w * tms s / 10 + d) * (10 - a) / 10
  else if k = 2 then w * tms s / 10 + d - 1
  else if k = 3 then (if s = 1 then w else w * tms s / 10 + d)
  else if k = 5 then (if (if s = 1 then w else w * tms s / 10 + d) < a then (if s = 1 then w else w * tms s / 10 + d) else a)
  else w * tms s / 10 + d
theorem payN_le {s k w a d : Nat} (hw : w ≤ 99) (ha : a ≤ 9) (hd : d ≤ 8) : payN s k w a d ≤ 107 := by
  have e : w * tms s ≤ 99 * 6 := Nat.mul_le_mul hw (by unfold tms; split <;> (try split) <;> (try split) <;> omega)
  have e2 : (if s = 0 then w * 9 / 10 else w * tms s / 10 + d) ≤ 107 := by split <;> omega
  have e3 : (if s = 0 then w * 9 / 10 else w * tms s / 10 + d) * (10 - a) ≤ 107 * 10 := Nat.mul_le_mul e2 (by omega)
  unfold payN
  split
  · exact e2
  · split
    · omega
    · split
      · omega
      · split
        · split <;> omega
        · split
          · (repeat' split) <;> omega
          · omega
theorem plF_N {s w d : Nat} (hs : s < 4) (hw : w ≤ 99) : plF (nI s) (nI w) (nI d) = nI (w * tms s / 10 + d) := by
  have hs' : s = 0 ∨ s = 1 ∨ s = 2 ∨ s = 3 := by omega
  rcases hs' with rfl | rfl | rfl | rfl
  · show nI w * 5 / 10 + nI d = nI (w * 5 / 10 + d)
    rw [nM5, nD10 (by omega), nI_add]
  · show nI w * 6 / 10 + nI d = nI (w * 6 / 10 + d)
    rw [nM6, nD10 (by omega), nI_add]
  · show nI w * 3 / 10 + nI d = nI (w * 3 / 10 + d)
    rw [nM3, nD10 (by omega), nI_add]
  · show nI w * 2 / 10 + nI d = nI (w * 2 / 10 + d)
    rw [nM2, nD10 (by omega), nI_add]
theorem nLit {s : Nat} (hs : s < 2 ^ 31) : (nI s = 0) = (s = 0) ∧ (nI s = 1) = (s = 1) ∧ (nI s = 2) = (s = 2) ∧ (nI s = 3) = (s = 3) ∧ (nI s = 4) = (s = 4) ∧ (nI s = 5) = (s = 5) ∧ (nI s = 6) = (s = 6) := ⟨neqN (c := 0) hs (by decide), neqN (c := 1) hs (by decide), neqN (c := 2) hs (by decide), neqN (c := 3) hs (by decide), neqN (c := 4) hs (by decide), neqN (c := 5) hs (by decide), neqN (c := 6) hs (by decide)⟩
theorem paF_N {s k w a d : Nat} (hs : s < 4) (hk : k < 6) (hw : w ≤ 99) (ha : a ≤ 9) (hd : d ≤ 8) : paF (nI s) (nI k) (nI w) (nI a) (nI d) = nI (payN s k w a d) := by
  have hb : w * tms s ≤ 99 * 6 := Nat.mul_le_mul hw (by unfold tms; split <;> (try split) <;> (try split) <;> omega)
  obtain ⟨s0, s1, -⟩ := nLit (s := s) (by omega)
  obtain ⟨-, k1, k2, k3, k4, k5, -⟩ := nLit (s := k) (by omega)
  unfold paF payN
  rw [plF_N hs hw]
  simp only [s0, s1, k1, k2, k3, k4, k5]
  have hv : w * tms s / 10 + d ≤ 1000 := by omega
  generalize w * tms s / 10 + d = v at *
  have e2 : (if 0 < nI v then nI v - 1 else 0) = nI (v - 1) := by
    simp only [n0lt (show v < 2 ^ 31 by omega)]
    by_cases h0 : 0 < v
    · rw [if_pos h0, nS1 h0]
    · rw [if_neg h0, show v - 1 = 0 by omega]
      rfl
  rw [e2, nM9, nD10 (show w * 9 < 2 ^ 31 by omega), nS10 (show a ≤ 10 by omega)]
  have hx : (if s = 0 then w * 9 / 10 else v) ≤ 1000 := by split <;> omega
  have hz : (if s = 1 then w else v) ≤ 1000 := by split <;> omega
  simp only [nite]
  generalize (if s = 0 then w * 9 / 10 else v) = x at *
  generalize (if s = 1 then w else v) = z at *
  have hm : x * (10 - a) ≤ 1000 * 10 := Nat.mul_le_mul hx (by omega)
  rw [nM, nD10 (show x * (10 - a) < 2 ^ 31 by omega)]
  simp only [nltN (show z < 2 ^ 31 by omega) (show a < 2 ^ 31 by omega), nite]
section
variable {b : Nat} {h : Hp} {K : Option Value → Hp → Prop}
theorem c182 (s k w a d : Int32) : AM 182 [.int s, .int k, .int w, .int a, .int d] h K = K (some (.int (paF s k w a d))) h := by
  by_cases k1 : k = 1
  · subst k1
    simp only [v182_0, v182_1, v182_2, v182_4, v182_7, v182_9, v182_10_1, v182_10_2, v182_10_3, v182_10_4, v182_10_5, v182_10_d, v182_44, v182_45, v182_48, v182_49, v182_51, v182_52, v182_54, v182_55, v182_58, v182_60, v182_61, v182_62, v182_65, v182_66, v182_68, v182_69, v182_71, v182_72, v182_75, v182_77, v182_79, v182_80, v182_81, v182_82, v182_84, v182_85, v182_86, v182_88, v182_91, v182_93, v182_94, v182_95, v182_98, v182_99, v182_100, v182_101, v182_102, v182_105, v182_106, v182_109, v182_111, v182_112, v182_113, v182_114, v182_117, v182_118, v182_121, v182_123, v182_125, v182_127, v182_128, v182_131, v182_133, v182_136, v182_137, v182_138, v182_140, e182, c181, pu_s, paF, reduceIte]
    by_cases h0 : s = 0 <;> simp [h0]
  · by_cases k2 : k = 2
    · subst k2
      simp only [v182_0, v182_1, v182_2, v182_4, v182_7, v182_9, v182_10_1, v182_10_2, v182_10_3, v182_10_4, v182_10_5, v182_10_d, v182_44, v182_45, v182_48, v182_49, v182_51, v182_52, v182_54, v182_55, v182_58, v182_60, v182_61, v182_62, v182_65, v182_66, v182_68, v182_69, v182_71, v182_72, v182_75, v182_77, v182_79, v182_80, v182_81, v182_82, v182_84, v182_85, v182_86, v182_88, v182_91, v182_93, v182_94, v182_95, v182_98, v182_99, v182_100, v182_101, v182_102, v182_105, v182_106, v182_109, v182_111, v182_112, v182_113, v182_114, v182_117, v182_118, v182_121, v182_123, v182_125, v182_127, v182_128, v182_131, v182_133, v182_136, v182_137, v182_138, v182_140, e182, c181, pu_s, paF, reduceIte]
      by_cases h0 : 0 < plF s w d
      · simp [h0, Int32.not_le.mpr h0]
      · simp [h0, Int32.not_lt.mp h0]
    · by_cases k3 : k = 3
      · subst k3
        simp only [v182_0, v182_1, v182_2, v182_4, v182_7, v182_9, v182_10_1, v182_10_2, v182_10_3, v182_10_4, v182_10_5, v182_10_d, v182_44, v182_45, v182_48, v182_49, v182_51, v182_52, v182_54, v182_55, v182_58, v182_60, v182_61, v182_62, v182_65, v182_66, v182_68, v182_69, v182_71, v182_72, v182_75, v182_77, v182_79, v182_80, v182_81, v182_82, v182_84, v182_85, v182_86, v182_88, v182_91, v182_93, v182_94, v182_95, v182_98, v182_99, v182_100, v182_101, v182_102, v182_105, v182_106, v182_109, v182_111, v182_112, v182_113, v182_114, v182_117, v182_118, v182_121, v182_123, v182_125, v182_127, v182_128, v182_131, v182_133, v182_136, v182_137, v182_138, v182_140, e182, c181, pu_s, paF, reduceIte]
        by_cases h0 : s = 1 <;> simp [h0]
      · by_cases k4 : k = 4
        · subst k4
          simp only [v182_0, v182_1, v182_2, v182_4, v182_7, v182_9, v182_10_1, v182_10_2, v182_10_3, v182_10_4, v182_10_5, v182_10_d, v182_44, v182_45, v182_48, v182_49, v182_51, v182_52, v182_54, v182_55, v182_58, v182_60, v182_61, v182_62, v182_65, v182_66, v182_68, v182_69, v182_71, v182_72, v182_75, v182_77, v182_79, v182_80, v182_81, v182_82, v182_84, v182_85, v182_86, v182_88, v182_91, v182_93, v182_94, v182_95, v182_98, v182_99, v182_100, v182_101, v182_102, v182_105, v182_106, v182_109, v182_111, v182_112, v182_113, v182_114, v182_117, v182_118, v182_121, v182_123, v182_125, v182_127, v182_128, v182_131, v182_133, v182_136, v182_137, v182_138, v182_140, e182, c181, pu_s, paF, reduceIte]
          by_cases h0 : s = 0 <;> simp [h0]
        · by_cases k5 : k = 5
          · subst k5
            simp only [v182_0, v182_1, v182_2, v182_4, v182_7, v182_9, v182_10_1, v182_10_2, v182_10_3, v182_10_4, v182_10_5, v182_10_d, v182_44, v182_45, v182_48, v182_49, v182_51, v182_52, v182_54, v182_55, v182_58, v182_60, v182_61, v182_62, v182_65, v182_66, v182_68, v182_69, v182_71, v182_72, v182_75, v182_77, v182_79, v182_80, v182_81, v182_82, v182_84, v182_85, v182_86, v182_88, v182_91, v182_93, v182_94, v182_95, v182_98, v182_99, v182_100, v182_101, v182_102, v182_105, v182_106, v182_109, v182_111, v182_112, v182_113, v182_114, v182_117, v182_118, v182_121, v182_123, v182_125, v182_127, v182_128, v182_131, v182_133, v182_136, v182_137, v182_138, v182_140, e182, c181, pu_s, paF, reduceIte]
            by_cases h0 : s = 1
            · subst h0
              by_cases h1 : w < a
              · simp [h1, Int32.not_le.mpr h1]
              · simp [h1, Int32.not_lt.mp h1]
            · by_cases h1 : plF s w d < a
              · simp [h0, h1, Int32.not_le.mpr h1]
              · simp [h0, h1, Int32.not_lt.mp h1]
          · have hx : k.toInt < 1 ∨ 5 < k.toInt := by
              have e1 : k.toInt ≠ 1 := fun z => k1 (Int32.toInt_inj.mp z)
              have e2 : k.toInt ≠ 2 := fun z => k2 (Int32.toInt_inj.mp z)
              have e3 : k.toInt ≠ 3 := fun z => k3 (Int32.toInt_inj.mp z)
              have e4 : k.toInt ≠ 4 := fun z => k4 (Int32.toInt_inj.mp z)
              have e5 : k.toInt ≠ 5 := fun z => k5 (Int32.toInt_inj.mp z)
              omega
            simp only [v182_0, v182_1, v182_2, v182_4, v182_7, v182_9, v182_10_1, v182_10_2, v182_10_3, v182_10_4, v182_10_5, v182_10_d, v182_44, v182_45, v182_48, v182_49, v182_51, v182_52, v182_54, v182_55, v182_58, v182_60, v182_61, v182_62, v182_65, v182_66, v182_68, v182_69, v182_71, v182_72, v182_75, v182_77, v182_79, v182_80, v182_81, v182_82, v182_84, v182_85, v182_86, v182_88, v182_91, v182_93, v182_94, v182_95, v182_98, v182_99, v182_100, v182_101, v182_102, v182_105, v182_106, v182_109, v182_111, v182_112, v182_113, v182_114, v182_117, v182_118, v182_121, v182_123, v182_125, v182_127, v182_128, v182_131, v182_133, v182_136, v182_137, v182_138, v182_140, e182, v182_10_d k hx, c181, pu_s, paF, k1, k2, k3, k4, k5, reduceIte]
end
