/-! the class's kinds and pay -/
def und (k a : Nat) : Bool := decide (a = 0 ∨ k = a ∨ (a = 1 ∧ k = 4) ∨ (a = 3 ∧ k = 5))
section
variable {b : Nat} {h : Hp} {K : Option Value → Hp → Prop}
theorem c129_s (hC : CN b h) {n s : Nat} (hn : n ≤ 5) (hs : s ≤ 5) (k ab : Int32) : V 129 4 [.int k, .int ab, .int (nI n), .int (nI s)] [] h K = if nI n = ab then K (some (.int 1)) h else V 129 35 [.int k, .int ab, .int (tbv 0 n), .int (nI (s + 1))] [] h K := by
  obtain ⟨a0, e1, e2, e3, e4⟩ := hC.tb (j := 0) (by decide)
  have i1 : inb (nI n) (gN h a0) = True := by rw [e3]; exact nIb (by show n < 6; omega) (by decide)
  have h6 : ¬ (6 : Int32) ≤ nI s := nI_ge (a := s) (b := 6) (by omega) (by decide)
  have h0 : ¬ nI n < 0 := nI_pos (by omega)
  have h5 : ¬ (5 : Int32) < nI n := nI_nlt (a := 5) (b := n) (by omega) (by decide)
  simp only [v129_0, v129_1, v129_2, v129_3, v129_4, v129_5, v129_7, v129_10, v129_11, v129_14, v129_15, v129_16, v129_19, v129_20, v129_21, v129_24, v129_25, v129_26, v129_29, v129_30, v129_31, v129_32, v129_38, v129_39, e1, vrf_s, e2, or_true, i1, not_false_eq_true, true_and, and_self, nIc (show n ≤ 1000000 by omega), e4 n (show n < 6 by omega), h6, h0, h5, reduceIte, ite_not, bo_1, nI_1]
  all_goals rfl
theorem c129_m (k ab s : Int32) : V 129 4 [.int k, .int ab, .int (-1), .int s] [] h K = K (some (.int 0)) h := by
  simp only [v129_0, v129_1, v129_2, v129_3, v129_4, v129_5, v129_7, v129_10, v129_11, v129_14, v129_15, v129_16, v129_19, v129_20, v129_21, v129_24, v129_25, v129_26, v129_29, v129_30, v129_31, v129_32, v129_38, v129_39, bo_0, true_and, show ((-1 : Int32) < 0) = True from eq_true (by decide), reduceIte, ite_self]
theorem c129 (hC : CN b h) {k a : Nat} (hk : k < 6) (ha : a < 6) : AM 129 [.int (nI k), .int (nI a)] h K = K (some (.int (z2 (und k a)))) h := by
  simp only [e129, v129_0, v129_1, v129_2, v129_3]
  show V 129 4 [.int (nI k), .int (nI a), .int (nI k), .int (nI 0)] [] h K = _
  have t0 : tbv 0 0 = -1 := rfl
  have t1 : tbv 0 1 = nI 0 := rfl
  have t2 : tbv 0 2 = nI 0 := rfl
  have t3 : tbv 0 3 = nI 0 := rfl
  have t4 : tbv 0 4 = nI 1 := rfl
  have t5 : tbv 0 5 = nI 3 := rfl
  have hk' : k = 0 ∨ k = 1 ∨ k = 2 ∨ k = 3 ∨ k = 4 ∨ k = 5 := by omega
  have ha' : a = 0 ∨ a = 1 ∨ a = 2 ∨ a = 3 ∨ a = 4 ∨ a = 5 := by omega
  rw [c129_s hC (by omega) (by omega), v129_35]
  rcases hk' with rfl | rfl | rfl | rfl | rfl | rfl
  · rw [t0, c129_m]
    rcases ha' with rfl | rfl | rfl | rfl | rfl | rfl <;> rfl
  · rw [t1, c129_s hC (by omega) (by omega), v129_35, t0, c129_m]
    rcases ha' with rfl | rfl | rfl | rfl | rfl | rfl <;> rfl
  · rw [t2, c129_s hC (by omega) (by omega), v129_35, t0, c129_m]
    rcases ha' with rfl | rfl | rfl | rfl | rfl | rfl <;> rfl
  · rw [t3, c129_s hC (by omega) (by omega), v129_35, t0, c129_m]
    rcases ha' with rfl | rfl | rfl | rfl | rfl | rfl <;> rfl
  · rw [t4, c129_s hC (by omega) (by omega), v129_35, t1, c129_s hC (by omega) (by omega), v129_35, t0, c129_m]
    rcases ha' with rfl | rfl | rfl | rfl | rfl | rfl <;> rfl
  · rw [t5, c129_s hC (by omega) (by omega), v129_35, t3, c129_s hC (by omega) (by omega), v129_35, t0, c129_m]
    rcases ha' with rfl | rfl | rfl | rfl | rfl | rfl <;> rfl
theorem c129_1 (hC : CN b h) {k : Nat} (hk : k < 6) : AM 129 [.int (nI k), .int 1] h K = K (some (.int (z2 (und k 1)))) h := c129 hC hk (a := 1) (by decide)
theorem c129_3 (hC : CN b h) {k : Nat} (hk : k < 6) : AM 129 [.int (nI k), .int 3] h K = K (some (.int (z2 (und k 3)))) h := c129 hC hk (a := 3) (by decide)
theorem nDec (v : Nat) (hv : v ≤ 1000) : (if nI v + -1 < 0 then 0 else nI v + -1) = nI (v - 1) := by
  by_cases h0 : v = 0
  · subst h0
    decide
  · have e : nI v + -1 = nI (v - 1) := by
      rw [show v = (v - 1) + 1 by omega, ← nI_1]
      rw [Int32.add_assoc, show (1 : Int32) + -1 = 0 by decide, Int32.add_zero]
      rfl
    rw [e, if_neg (nI_pos (by omega))]
theorem mx0 {x : Nat} (hx : x ≤ 100000) : (if nI x < 0 then 0 else nI x) = nI x := if_neg (nI_pos (by omega))
theorem mx4 {x a : Nat} (hx : x ≤ 1000) : (if nI x * nI (10 - a) / 10 < 0 then 0 else nI x * nI (10 - a) / 10) = nI (x * (10 - a) / 10) := by
  have hm : x * (10 - a) ≤ 1000 * 10 := Nat.mul_le_mul hx (by omega)
  rw [nM, nD10 (by omega)]
  exact mx0 (by omega)
theorem mx5 {x a : Nat} (hx : x ≤ 1000) (ha : a ≤ 9) : (if (if nI a < nI x then nI a else nI x) < 0 then 0 else (if nI a < nI x then nI a else nI x)) = nI (if x < a then x else a) := by
  simp only [nltN (show a < 2 ^ 31 by omega) (show x < 2 ^ 31 by omega), nite]
  rw [mx0 (by split <;> omega)]
  congr 1
  split <;> split <;> omega
set_option maxHeartbeats 2000000 in
theorem c132 (hC : CN b h) {s k w a d : Nat} (hs : s < 4) (hk : k < 6) (hw : w ≤ 99) (ha : a ≤ 9) (hd : d ≤ 8) : AM 132 [.int (nI s), .int (nI k), .int (nI w), .int (nI a), .int (nI d)] h K = K (some (.int (nI (payN s k w a d)))) h := by
  obtain ⟨a0, e1, e2, e3, e4⟩ := hC.tb (j := 1) (by decide)
  have i1 : inb (nI s) (gN h a0) = True := by rw [e3]; exact nIb hs (by decide)
  have c1 : (nI s).toNatClampNeg = s := nIc (by omega)
  have e5 : gI h a0 s = nI (tms s) := by
    rw [e4 s hs]
    have hs' : s = 0 ∨ s = 1 ∨ s = 2 ∨ s = 3 := by omega
    rcases hs' with rfl | rfl | rfl | rfl <;> rfl
  have hb : w * tms s ≤ 99 * 6 := Nat.mul_le_mul hw (by unfold tms; split <;> (try split) <;> (try split) <;> omega)
  have q0 : nI w * nI (tms s) / 10 + nI d = nI (w * tms s / 10 + d) := by rw [nM, nD10 (by omega), nI_add]
  have q1 : nI w * 9 / 10 = nI (w * 9 / 10) := by rw [nM9, nD10 (by omega)]
  have q2 : (10 : Int32) - nI a = nI (10 - a) := nS10 (by omega)
  have f0 : (if k = 2 then w * tms s / 10 + d - 1 else 0) = (if k = 2 then w * tms s / 10 + d - 1 else 0) := rfl
  have hv : w * tms s / 10 + d ≤ 1000 := by omega
  have u1 : und k 1 = decide (k = 1 ∨ k = 4) := by simp [und]
  have u3 : und k 3 = decide (k = 3 ∨ k = 5) := by simp [und]
  obtain ⟨s0, s1, -⟩ := nLit (s := s) (by omega)
  obtain ⟨-, k1, k2, k3, k4, k5, -⟩ := nLit (s := k) (by omega)
  simp only [v132_0, v132_1, v132_4, v132_5, v132_6, v132_7, v132_9, v132_10, v132_12, v132_13, v132_15, v132_16, v132_19, v132_20, v132_21, v132_24, v132_27, v132_28, v132_30, v132_31, v132_33, v132_34, v132_36, v132_37, v132_38, v132_41, v132_42, v132_43, v132_46, v132_49, v132_50, v132_52, v132_53, v132_54, v132_57, v132_60, v132_61, v132_62, v132_65, v132_67, v132_69, v132_70, v132_71, v132_72, v132_74, v132_75, v132_77, v132_78, v132_79, v132_82, v132_84, v132_85, v132_88, v132_90, v132_92, v132_93, v132_96, e132, e1, vrf_s, e2, or_true, i1, c1, not_false_eq_true, true_and, and_self, e5, q0, q1, c129_1 hC hk, c129_3 hC hk, pu_s, z2_e0, u1, u3, q2, s0, s1, k1, k2, k3, k4, k5, ne_eq, show ¬ (10 : Int32) = 0 from by decide]
  have hs' : s = 0 ∨ s = 1 ∨ s = 2 ∨ s = 3 := by omega
  have hk' : k = 0 ∨ k = 1 ∨ k = 2 ∨ k = 3 ∨ k = 4 ∨ k = 5 := by omega
  rcases hs' with rfl | rfl | rfl | rfl <;> rcases hk' with rfl | rfl | rfl | rfl | rfl | rfl <;> simp (decide := true) only [reduceIte, payN]
  all_goals first | (rw [mx5] <;> omega) | (rw [mx4]; omega) | (rw [nDec]; omega) | (rw [mx0]; omega)
end
