/-! the methods that read nothing but constants -/
section
variable {b : Nat} {h : Hp} {K : Option Value → Hp → Prop}
theorem c123 (v l m : Int32) : AM 123 [.int v, .int l, .int m] h K = K (some (.int (z2 (inI v l m)))) h := by
  simp only [v123_0, v123_1, v123_2, v123_5, v123_6, v123_7, v123_10, v123_11, v123_14, v123_15, e123, bo_0, bo_1, true_and]
  rw [inI_ite]
  exact ite_z2 (P := fun x => K (some x) h)
theorem c135 (v l m : Int64) : AM 135 [.long v, .long l, .long m] h K = K (some (.int (z2 (inJ v l m)))) h := by
  simp only [v135_0, v135_1, v135_2, v135_3, v135_6, v135_7, v135_9, v135_10, v135_13, v135_14, v135_17, v135_18, e135, bo_0, bo_1, true_and, lg_lt, lg_gt]
  rw [inJ_ite]
  exact ite_z2 (P := fun x => K (some x) h)
def tbv (j c : Nat) : Int32 := ((tabD.getD j ("", [])).2).getD c 0
theorem c124 (hC : CN b h) (c : Nat) (hc : c < 7) (v : Int32) : AM 124 [.int (nI c), .int v] h K = K (some (.int (z2 (inI v (tbv 2 c) (tbv 3 c))))) h := by
  obtain ⟨a2, e1, e2, e3, e4⟩ := hC.tb (j := 2) (by decide)
  obtain ⟨a3, f1, f2, f3, f4⟩ := hC.tb (j := 3) (by decide)
  have i1 : inb (nI c) (gN h a2) = True := by rw [e3]; exact nIb hc (by decide)
  have i2 : inb (nI c) (gN h a3) = True := by rw [f3]; exact nIb hc (by decide)
  simp only [v124_0, v124_1, v124_4, v124_5, v124_6, v124_9, v124_10, v124_11, v124_14, e124, e1, f1, vrf_s, e2, f2, or_true, i1, i2, not_false_eq_true, true_and, and_self, nIc (show c ≤ 1000000 by omega), e4 c hc, f4 c hc, c123, pu_s, bo_z2]
  rfl
theorem c125 (hC : CN b h) (c : Nat) (hc : c < 3) (v : Int32) : AM 125 [.int (nI c), .int v] h K = K (some (.int (z2 (inI v (tbv 4 c) (tbv 5 c))))) h := by
  obtain ⟨a2, e1, e2, e3, e4⟩ := hC.tb (j := 4) (by decide)
  obtain ⟨a3, f1, f2, f3, f4⟩ := hC.tb (j := 5) (by decide)
  have i1 : inb (nI c) (gN h a2) = True := by rw [e3]; exact nIb hc (by decide)
  have i2 : inb (nI c) (gN h a3) = True := by rw [f3]; exact nIb hc (by decide)
  simp only [v125_0, v125_1, v125_4, v125_5, v125_6, v125_9, v125_10, v125_11, v125_14, e125, e1, f1, vrf_s, e2, f2, or_true, i1, i2, not_false_eq_true, true_and, and_self, nIc (show c ≤ 1000000 by omega), e4 c hc, f4 c hc, c123, pu_s, bo_z2]
  rfl
def bitI (x p : Int32) : Bool := decide (¬ (x >>> (p &&& 31)) &&& 1 = 0)
theorem c127 (x p : Int32) : AM 127 [.int x, .int p] h K = K (some (.int (z2 (bitI x p)))) h := by
  simp only [v127_0, v127_1, v127_2, v127_3, v127_4, v127_5, v127_8, v127_9, v127_12, v127_13, e127, bo_0, bo_1, true_and]
  unfold bitI
  by_cases hz : (x >>> (p &&& 31)) &&& 1 = 0
  · simp [hz, z2]
  · simp [hz, z2]
theorem c130 (k : Int32) : AM 130 [.int k] h K = K (some (.int (if k = 2 then 1 else 0))) h := by
  simp only [v130_0, v130_1, v130_2, v130_5, v130_6, v130_9, v130_10, e130]
  by_cases hk : k = 2 <;> simp [hk]
theorem c157 (k : Int32) : AM 157 [.int k] h K = K (some (.int (if k = 0 then 1 else 0))) h := by
  simp only [v157_0, v157_1, v157_4, v157_5, v157_8, v157_9, e157]
  by_cases hk : k = 0 <;> simp [hk]
theorem c156 (k : Int32) : AM 156 [.int k] h K = K (some (.int (if k = 0 then 30 else if k = 1 then 14 else if k = 2 then 1 else 9))) h := by
  simp only [v156_0, v156_1, v156_4, v156_6, v156_9, v156_10, v156_11, v156_14, v156_16, v156_19, v156_20, v156_21, v156_24, v156_25, v156_28, v156_30, e156]
  by_cases h0 : k = 0
  · simp [h0]
  · by_cases h1 : k = 1
    · simp [h1]
    · by_cases h2 : k = 2 <;> simp [h0, h1, h2]
theorem c154 (k : Int32) : AM 154 [.int k] h K = K (some (.int (if k = 0 then 1 else if k = 1 then 3 else if k = 2 then 5 else 6))) h := by
  simp only [v154_0, v154_1, v154_4, v154_5, v154_8, v154_9, v154_10, v154_13, v154_14, v154_17, v154_18, v154_19, v154_22, v154_23, v154_26, v154_28, e154]
  by_cases h0 : k = 0
  · simp [h0]
  · by_cases h1 : k = 1
    · simp [h1]
    · by_cases h2 : k = 2 <;> simp [h0, h1, h2]
theorem c161 (v : Int32) : AM 161 [.int v] h K = K (some (.int (z2 (inI v 97 122)))) h := by
  simp only [v161_0, v161_1, v161_3, v161_6, v161_7, v161_9, v161_12, v161_13, v161_16, v161_17, e161, bo_0, bo_1, true_and]
  rw [inI_ite]
  exact ite_z2 (P := fun x => K (some x) h)
theorem c162 (v : Int32) : AM 162 [.int v] h K = K (some (.int (z2 (inI v 48 57)))) h := by
  simp only [v162_0, v162_1, v162_3, v162_6, v162_7, v162_9, v162_12, v162_13, v162_16, v162_17, e162, bo_0, bo_1, true_and]
  rw [inI_ite]
  exact ite_z2 (P := fun x => K (some x) h)
theorem c2 (s t d : Int32) : AM 2 [.int s, .int t, .int d] h K = K (some (.int ((s * 8 + t) * 9 + d))) h := by
  simp only [v2_0, v2_1, v2_3, v2_4, v2_5, v2_6, v2_8, v2_9, v2_10, v2_11, e2]
/-- ref's plain and pay -/
def plF (s w d : Int32) : Int32 := w * (if s = 0 then 5 else if s = 1 then 6 else if s = 2 then 3 else 2) / 10 + d
theorem c181 (s w d : Int32) : AM 181 [.int s, .int w, .int d] h K = K (some (.int (plF s w d))) h := by
  simp only [v181_0, v181_1, v181_4, v181_5, v181_8, v181_9, v181_10, v181_13, v181_15, v181_18, v181_19, v181_20, v181_23, v181_24, v181_27, v181_28, v181_29, v181_30, v181_31, v181_32, v181_34, v181_35, v181_36, v181_37, e181, plF]
  by_cases h0 : s = 0
  · simp [h0]
  · by_cases h1 : s = 1
    · simp [h1]
    · by_cases h2 : s = 2 <;> simp [h0, h1, h2]
def paF (s k w a d : Int32) : Int32 :=
  if k = 1 then (if s = 0 then w * 9 / 10 else plF s w d)
  else if k = 4 then (if s = 0 then w * 9 / 10 else plF s w d) * (10 - a) / 10
  else if k = 2 then (if 0 < plF s w d then plF s w d - 1 else 0)
  else if k = 3 then (if s = 1 then w else plF s w d)
  else if k = 5 then (if (if s = 1 then w else plF s w d) < a then (if s = 1 then w else plF s w d) else a)
  else plF s w d
def bcF (x0 : Int32) : Int32 :=
  let x := x0 - ((x0.toUInt32 >>> ((1 : Int32).toUInt32 &&& Int32.toUInt32 31)).toInt32 &&& 1431655765)
  let x := (x &&& 858993459) + ((x.toUInt32 >>> ((2 : Int32).toUInt32 &&& Int32.toUInt32 31)).toInt32 &&& 858993459)
  let x := (x + (x.toUInt32 >>> ((4 : Int32).toUInt32 &&& Int32.toUInt32 31)).toInt32) &&& 252645135
  let x := x + (x.toUInt32 >>> ((8 : Int32).toUInt32 &&& Int32.toUInt32 31)).toInt32
  let x := x + (x.toUInt32 >>> ((16 : Int32).toUInt32 &&& Int32.toUInt32 31)).toInt32
  x &&& 63
theorem c237 (x : Int32) : AM 237 [.int x] h K = K (some (.int (bcF x))) h := by
  simp only [v237_0, v237_1, v237_2, v237_3, v237_4, v237_7, v237_8, v237_9, v237_10, v237_11, v237_14, v237_15, v237_16, v237_17, v237_18, v237_21, v237_22, v237_23, v237_24, v237_25, v237_26, v237_27, v237_28, v237_29, v237_32, v237_33, v237_34, v237_35, v237_36, v237_38, v237_39, v237_40, v237_41, v237_42, v237_43, v237_45, v237_46, v237_47, v237_48, v237_49, v237_51, v237_52, e237]
  rfl
end
