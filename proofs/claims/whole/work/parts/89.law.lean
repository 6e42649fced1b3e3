/-! THE LAW'S LOOP -/
section
variable {b ar n i : Nat} {xs : Nat → Int32} {u : LU} {A : XA} {h : Hp} {K : Option Value → Hp → Prop}
theorem CN.init {h : Hp} {ar L : Nat} (hI : Init h ar L xs) : CN (gX h) h := by
  obtain ⟨i1, i2, i3, i4, i5, i6, i7, i8, i9, i10'⟩ := hI
  have tb0 : tbK 0 = false := by decide
  have st0 : stK 0 = false := by decide
  have bt0 : btK 0 = false := by decide
  have lt : ∀ a, gK h a ≠ 0 → a < gX h := fun a ha => by
    by_cases g : a < gX h
    · exact g
    · exact absurd (i4 a (by omega)) ha
  refine ⟨i1, fun j hj => ?_, i7.1, fun q hq => ?_⟩
  · obtain ⟨a, e1, e2, e3, e4⟩ := i6 j hj
    exact ⟨a, lt a (fun z => by rw [z, tb0] at e2; cases e2), e1, e2, e3, e4⟩
  · obtain ⟨a, v, e1, e2, e3, e4, e5, e6, e7⟩ := i7.2 q hq
    exact ⟨a, v, lt a (fun z => by rw [z, st0] at e2; cases e2), lt v (fun z => by rw [z, bt0] at e5; cases e5), e1, e2, e3, e4, e5, e6, e7⟩
theorem law_c (hL : LH b ar n i xs u A h) (hN : LN b ar i h K) (hn : V 251 1727 [.ref ar, .ref b, .ref (b + 138), .int (nI i)] [] h K) (v : Int32) : V 251 33 [.ref ar, .ref b, .ref (b + 138), .int (nI i)] [.int v] h K := by
  by_cases gd : v.toInt < 0 ∨ 53 < v.toInt
  · rw [v251_33_d v gd]
    exact hn
  · have g0 : ¬ v < 0 := by
      rw [Int32.lt_iff_toInt_lt, show (0 : Int32).toInt = 0 from rfl]
      omega
    obtain ⟨t, ht, rfl⟩ := nI_of g0
    rw [nI_toInt ht] at gd
    have ht54 : t = 0 ∨ t = 1 ∨ t = 2 ∨ t = 3 ∨ t = 4 ∨ t = 5 ∨ t = 6 ∨ t = 7 ∨ t = 8 ∨ t = 9 ∨ t = 10 ∨ t = 11 ∨ t = 12 ∨ t = 13 ∨ t = 14 ∨ t = 15 ∨ t = 16 ∨ t = 17 ∨ t = 18 ∨ t = 19 ∨ t = 20 ∨ t = 21 ∨ t = 22 ∨ t = 23 ∨ t = 24 ∨ t = 25 ∨ t = 26 ∨ t = 27 ∨ t = 28 ∨ t = 29 ∨ t = 30 ∨ t = 31 ∨ t = 32 ∨ t = 33 ∨ t = 34 ∨ t = 35 ∨ t = 36 ∨ t = 37 ∨ t = 38 ∨ t = 39 ∨ t = 40 ∨ t = 41 ∨ t = 42 ∨ t = 43 ∨ t = 44 ∨ t = 45 ∨ t = 46 ∨ t = 47 ∨ t = 48 ∨ t = 49 ∨ t = 50 ∨ t = 51 ∨ t = 52 ∨ t = 53 := by omega
    rcases ht54 with rfl | rfl | rfl | rfl | rfl | rfl | rfl | rfl | rfl | rfl | rfl | rfl | rfl | rfl | rfl | rfl | rfl | rfl | rfl | rfl | rfl | rfl | rfl | rfl | rfl | rfl | rfl | rfl | rfl | rfl | rfl | rfl | rfl | rfl | rfl | rfl | rfl | rfl | rfl | rfl | rfl | rfl | rfl | rfl | rfl | rfl | rfl | rfl | rfl | rfl | rfl | rfl | rfl | rfl
    · rw [show nI 0 = (0 : Int32) from rfl, v251_33_0]
      exact lc_0 hL hN
    · rw [show nI 1 = (1 : Int32) from rfl, v251_33_1]
      exact lc_1 hL hN
    · rw [show nI 2 = (2 : Int32) from rfl, v251_33_2]
      exact lc_2 hL hN
    · rw [show nI 3 = (3 : Int32) from rfl, v251_33_3]
      exact lc_3 hL hN
    · rw [show nI 4 = (4 : Int32) from rfl, v251_33_4]
      exact lc_4 hL hN
    · rw [show nI 5 = (5 : Int32) from rfl, v251_33_5]
      exact lc_5 hL hN
    · rw [show nI 6 = (6 : Int32) from rfl, v251_33_6]
      exact lc_6 hL hN
    · rw [show nI 7 = (7 : Int32) from rfl, v251_33_7]
      exact lc_7 hL hN
    · rw [show nI 8 = (8 : Int32) from rfl, v251_33_8]
      exact lc_8 hL hN
    · rw [show nI 9 = (9 : Int32) from rfl, v251_33_9]
      exact lc_9 hL hN
    · rw [show nI 10 = (10 : Int32) from rfl, v251_33_10]
      exact lc_10 hL hN
    · rw [show nI 11 = (11 : Int32) from rfl, v251_33_11]
      exact lc_11 hL hN
    · rw [show nI 12 = (12 : Int32) from rfl, v251_33_12]
      exact lc_12 hL hN
    · rw [show nI 13 = (13 : Int32) from rfl, v251_33_13]
      exact lc_13 hL hN
    · rw [show nI 14 = (14 : Int32) from rfl, v251_33_14]
      exact lc_14 hL hN
    · rw [show nI 15 = (15 : Int32) from rfl, v251_33_15]
      exact lc_15 hL hN
    · rw [show nI 16 = (16 : Int32) from rfl, v251_33_16]
      exact lc_16 hL hN
    · rw [show nI 17 = (17 : Int32) from rfl, v251_33_17]
      exact lc_17 hL hN
    · rw [show nI 18 = (18 : Int32) from rfl, v251_33_18]
      exact lc_18 hL hN
    · rw [show nI 19 = (19 : Int32) from rfl, v251_33_19]
      exact lc_19 hL hN
    · rw [show nI 20 = (20 : Int32) from rfl, v251_33_20]
      exact lc_20 hL hN
    · rw [show nI 21 = (21 : Int32) from rfl, v251_33_21]
      exact lc_21 hL hN
    · rw [show nI 22 = (22 : Int32) from rfl, v251_33_22]
      exact lc_22 hL hN
    · rw [show nI 23 = (23 : Int32) from rfl, v251_33_23]
      exact lc_23 hL hN
    · rw [show nI 24 = (24 : Int32) from rfl, v251_33_24]
      exact lc_24 hL hN
    · rw [show nI 25 = (25 : Int32) from rfl, v251_33_25]
      exact lc_25 hL hN
    · rw [show nI 26 = (26 : Int32) from rfl, v251_33_26]
      exact lc_26 hL hN
    · rw [show nI 27 = (27 : Int32) from rfl, v251_33_27]
      exact lc_27 hL hN
    · rw [show nI 28 = (28 : Int32) from rfl, v251_33_28]
      exact lc_28 hL hN
    · rw [show nI 29 = (29 : Int32) from rfl, v251_33_29]
      exact lc_29 hL hN
    · rw [show nI 30 = (30 : Int32) from rfl, v251_33_30]
      exact lc_30 hL hN
    · rw [show nI 31 = (31 : Int32) from rfl, v251_33_31]
      exact lc_31 hL hN
    · rw [show nI 32 = (32 : Int32) from rfl, v251_33_32]
      exact lc_32 hL hN
    · rw [show nI 33 = (33 : Int32) from rfl, v251_33_33]
      exact lc_33 hL hN
    · rw [show nI 34 = (34 : Int32) from rfl, v251_33_34]
      exact lc_34 hL hN
    · rw [show nI 35 = (35 : Int32) from rfl, v251_33_35]
      exact lc_35 hL hN
    · rw [show nI 36 = (36 : Int32) from rfl, v251_33_36]
      exact lc_36 hL hN
    · rw [show nI 37 = (37 : Int32) from rfl, v251_33_37]
      exact lc_37 hL hN
    · rw [show nI 38 = (38 : Int32) from rfl, v251_33_38]
      exact lc_38 hL hN
    · rw [show nI 39 = (39 : Int32) from rfl, v251_33_39]
      exact lc_39 hL hN
    · rw [show nI 40 = (40 : Int32) from rfl, v251_33_40]
      exact lc_40 hL hN
    · rw [show nI 41 = (41 : Int32) from rfl, v251_33_41]
      exact lc_41 hL hN
    · rw [show nI 42 = (42 : Int32) from rfl, v251_33_42]
      exact lc_42 hL hN
    · rw [show nI 43 = (43 : Int32) from rfl, v251_33_43]
      exact lc_43 hL hN
    · rw [show nI 44 = (44 : Int32) from rfl, v251_33_44]
      exact lc_44 hL hN
    · rw [show nI 45 = (45 : Int32) from rfl, v251_33_45]
      exact lc_45 hL hN
    · rw [show nI 46 = (46 : Int32) from rfl, v251_33_46]
      exact lc_46 hL hN
    · rw [show nI 47 = (47 : Int32) from rfl, v251_33_47]
      exact lc_47 hL hN
    · rw [show nI 48 = (48 : Int32) from rfl, v251_33_48]
      exact lc_48 hL hN
    · rw [show nI 49 = (49 : Int32) from rfl, v251_33_49]
      exact lc_49 hL hN
    · rw [show nI 50 = (50 : Int32) from rfl, v251_33_50]
      exact lc_50 hL hN
    · rw [show nI 51 = (51 : Int32) from rfl, v251_33_51]
      exact lc_51 hL hN
    · rw [show nI 52 = (52 : Int32) from rfl, v251_33_52]
      exact lc_52 hL hN
    · rw [show nI 53 = (53 : Int32) from rfl, v251_33_53]
      exact lc_53 hL hN
theorem law_l {h0 : Hp} {X S : Nat} (har : ar < b) (hn : n ≤ 3072) (ka0 : tbK (gK h0 ar) = true) (na0 : gN h0 ar = n) (xa0 : ∀ j, j < n → gI h0 ar j = xs j) (kk : ∀ h2, gX h2 ≤ X → gS h2 ≤ S → K (some (.int 1)) h2) :
    ∀ (d i : Nat) (u : LU) (A : XA) (h : Hp), n < i + 6 * d + 6 → i ≤ 4000 → CL b A h → MR (b + 138) u A h → WF A → Ag b h0 h → gX h + 200 * d ≤ X → gS h + 4000 * d ≤ S → V 251 18 [.ref ar, .ref b, .ref (b + 138), .int (nI i)] [] h K := by
  intro d
  induction d with
  | zero =>
    intro i u A h hd hi hC hR hW hA hX hS
    have ka : tbK (gK h ar) = true := by rw [hA.ak har]; exact ka0
    have na : gN h ar = n := (hA.an har).trans na0
    have el : (Int32.ofNat n - 6 < nI i) = True := eq_true (by
      show nI n - nI 6 < nI i
      rw [Int32.lt_iff_toInt_lt, lsub (by omega) (by omega), nI_toInt (by omega)]
      omega)
    simp only [v251_18, v251_19, v251_20, v251_21, v251_23, v251_24, v251_1733, v251_1734, bo_1, ka, na, el, true_or, or_true, true_and, reduceIte]
    exact kk h (by omega) (by omega)
  | succ d ih =>
    intro i u A h hd hi hC hR hW hA hX hS
    have ka : tbK (gK h ar) = true := by rw [hA.ak har]; exact ka0
    have na : gN h ar = n := (hA.an har).trans na0
    by_cases g : i + 6 ≤ n
    · have el : (Int32.ofNat n - 6 < nI i) = False := eq_false (by
        show ¬ nI n - nI 6 < nI i
        rw [Int32.lt_iff_toInt_lt, lsub (by omega) (by omega), nI_toInt (by omega)]
        omega)
      have c1 : (nI i).toNatClampNeg = i := nIc (by omega)
      have i1 : inb (nI i) n = True := nIb (by omega) (by omega)
      have x0 : gI h ar i = xs i := (hA.ai har).trans (xa0 i (by omega))
      have e6 : nI i + 6 = nI (i + 6) := nI_add i 6
      have nx : LN b ar i h K := fun h2 u2 A2 hC2 hR2 hW2 hA2 hX2 hS2 => by
        rw [v251_1727, v251_1730, e6]
        exact ih (i + 6) u2 A2 h2 (by omega) (by omega) hC2 hR2 hW2 (hA.tr hA2) (by omega) (by omega)
      simp only [v251_18, v251_19, v251_20, v251_21, v251_23, v251_24, v251_27, v251_28, v251_29, v251_30, v251_32, ka, na, el, c1, i1, x0, true_or, or_true, true_and, and_self, reduceIte]
      exact law_c ⟨hC, hR, hW, har, g, hn, ka, na, fun j hj => (hA.ai har).trans (xa0 j hj)⟩ nx (nx h u A hC hR hW Ag.rf (by omega) (by omega)) _
    · have el : (Int32.ofNat n - 6 < nI i) = True := eq_true (by
        show nI n - nI 6 < nI i
        rw [Int32.lt_iff_toInt_lt, lsub (by omega) (by omega), nI_toInt (by omega)]
        omega)
      simp only [v251_18, v251_19, v251_20, v251_21, v251_23, v251_24, v251_1733, v251_1734, bo_1, ka, na, el, true_or, or_true, true_and, reduceIte]
      exact kk h (by omega) (by omega)
theorem law_V (h0 : Hp) (ar L : Nat) (xs : Nat → Int32) (hL : L ≤ 3072) (hI : Init h0 ar L xs) : V 251 0 [.ref ar, un0, un0, un0] [] h0 (fun r h' => r = some (.int 1) ∧ gX h' ≤ gX h0 + 600000 ∧ gS h' ≤ 7302249) := by
  have hCN := CN.init hI
  obtain ⟨i1, i2, i3, i4, i5, i6, i7, i8, i9, i10'⟩ := hI
  have k0 : gK (mk1 h0 6 0 7) (gX h0) = 6 := if_pos rfl
  simp only [v251_0, v251_3, v251_4, k0, true_and]
  refine n53 (b := gX h0) rfl hCN (fun h2 x2 s2 g2 hC2 => ?_)
  have k1 : gK (mk1 h2 7 0 41) (gX h2) = 7 := if_pos rfl
  simp only [pu_n, v251_7, v251_8, v251_11, v251_12, k1, true_and]
  refine n133 (m := gX h2) rfl (fun h3 x3 s3 g3 hR3 => ?_)
  rw [x2] at x3 g3 hR3 ⊢
  simp only [pu_n, v251_15, v251_16, v251_17]
  have hC3 := hC2.ag A0_wf g3
  exact law_l (h0 := h0) (X := gX h0 + 600000) (S := 7302249) i2 hL i8 i9 i10' (fun h4 a1 a2 => ⟨rfl, a1, a2⟩) 512 0 _ A0 h3 (by omega) (by omega) hC3 hR3 A0_wf (g2.tr (g3.mo (by omega))) (by omega) (by omega)
end
