/-! BUYERS BY A ROW, on both sides -/
def bL (r : Nat) : Int64 := if r = 2 then 1 else 0
def bM (r : Nat) : Int64 := if r = 0 then 6 else if r = 1 then 3 else 99
def bO (j : Nat) (v : Int64) : Bool := inJ v (bL (j % 3)) (bM (j % 3))
def areB (f : Nat → Int64) : Nat → Bool
  | 0 => true
  | k + 1 => areB f k && bO k (f k)
theorem areB_all {f : Nat → Int64} : ∀ {n : Nat}, areB f n = true ↔ ∀ j, j < n → bO j (f j) = true
  | 0 => ⟨fun _ j hj => absurd hj (Nat.not_lt_zero j), fun _ => rfl⟩
  | n + 1 => by
    unfold areB
    rw [Bool.and_eq_true, areB_all]
    constructor
    · intro h j hj
      by_cases e : j = n
      · subst e; exact h.2
      · exact h.1 j (by omega)
    · intro h
      exact ⟨fun j hj => h j (by omega), h n (Nat.lt_succ_self n)⟩
theorem bO_0 (k : Nat) (v : Int64) : bO (3 * k) v = inJ v 0 6 := by
  unfold bO
  rw [show 3 * k % 3 = 0 by omega]
  rfl
theorem bO_1 (k : Nat) (v : Int64) : bO (3 * k + 1) v = inJ v 0 3 := by
  unfold bO
  rw [show (3 * k + 1) % 3 = 1 by omega]
  rfl
theorem bO_2 (k : Nat) (v : Int64) : bO (3 * k + 2) v = inJ v 1 99 := by
  unfold bO
  rw [show (3 * k + 2) % 3 = 2 by omega]
  rfl
theorem mkE_r {el : Nat → Int64} {t l m : Nat} (hm : m ≤ 99) (h1 : (l : Int) ≤ (el t).toInt) (h2 : (el t).toInt ≤ m) : (el t).toInt32 = nI (mkE el t) ∧ l ≤ mkE el t ∧ mkE el t ≤ m := by
  have h0 : inJ (el t) 0 99 = true := by
    refine inJ_t.mpr ⟨?_, ?_⟩
    · rw [Int64.le_iff_toInt_le, show (0 : Int64).toInt = 0 from rfl]; omega
    · rw [Int64.le_iff_toInt_le, show (99 : Int64).toInt = 99 from rfl]; omega
  obtain ⟨e1, e2⟩ := mkE_ok h0
  refine ⟨e1, ?_⟩
  have e3 : (el t).toInt32.toInt = (el t).toInt := by
    rw [Int64.toInt_toInt32]
    simp only [Int.bmod]
    split <;> omega
  rw [e1, nI_toInt (by omega)] at e3
  omega
theorem byE {f : Nat → Int64} {n k : Nat} (hA : areB f n = true) (hk : 3 * k + 2 < n) : ((f (3 * k)).toInt32 = nI (mkE f (3 * k)) ∧ mkE f (3 * k) ≤ 6) ∧ ((f (3 * k + 1)).toInt32 = nI (mkE f (3 * k + 1)) ∧ mkE f (3 * k + 1) ≤ 3) ∧ ((f (3 * k + 2)).toInt32 = nI (mkE f (3 * k + 2)) ∧ 1 ≤ mkE f (3 * k + 2) ∧ mkE f (3 * k + 2) ≤ 99) := by
  have a0 := areB_all.mp hA (3 * k) (by omega)
  have a1 := areB_all.mp hA (3 * k + 1) (by omega)
  have a2 := areB_all.mp hA (3 * k + 2) (by omega)
  rw [bO_0] at a0
  rw [bO_1] at a1
  rw [bO_2] at a2
  obtain ⟨x1, x2⟩ := inJ_t.mp a0
  obtain ⟨y1, y2⟩ := inJ_t.mp a1
  obtain ⟨z1, z2⟩ := inJ_t.mp a2
  rw [Int64.le_iff_toInt_le] at x1 x2 y1 y2 z1 z2
  have k0 : (0 : Int64).toInt = 0 := rfl
  have k1 : (1 : Int64).toInt = 1 := rfl
  have k3 : (3 : Int64).toInt = 3 := rfl
  have k6 : (6 : Int64).toInt = 6 := rfl
  have k9 : (99 : Int64).toInt = 99 := rfl
  rw [k0] at x1 y1
  rw [k6] at x2
  rw [k3] at y2
  rw [k1] at z1
  rw [k9] at z2
  obtain ⟨p1, p2, p3⟩ := mkE_r (l := 0) (m := 6) (by decide) x1 x2
  obtain ⟨q1, q2, q3⟩ := mkE_r (l := 0) (m := 3) (by decide) y1 y2
  obtain ⟨r1, r2, r3⟩ := mkE_r (l := 1) (m := 99) (by decide) z1 z2
  exact ⟨⟨p1, p3⟩, ⟨q1, q3⟩, r1, r2, r3⟩
def bysN (s : SG) (f : Nat → Int64) : Nat → SG
  | 0 => s
  | k + 1 => sgB (bysN s f k) (mkE f (3 * k)) (mkE f (3 * k + 1)) (mkE f (3 * k + 2))
theorem bysN_n (s : SG) (f : Nat → Int64) (k : Nat) : sN (bysN s f k) = sN s := by
  induction k with
  | zero => rfl
  | succ k ih => exact ih
theorem bysN_m (s : SG) (f : Nat → Int64) (k : Nat) : sM (bysN s f k) = sM s + k := by
  induction k with
  | zero => rfl
  | succ k ih =>
    show sM (bysN s f k) + 1 = _
    rw [ih]
    rfl
theorem bysN_ok {s : SG} (hO : SOk s) {f : Nat → Int64} {n : Nat} (hA : areB f n = true) (k : Nat) (hk : 3 * k ≤ n) (hm : sM s + k ≤ 24) : SOk (bysN s f k) := by
  induction k with
  | zero => exact hO
  | succ k ih =>
    obtain ⟨⟨-, a⟩, ⟨-, b⟩, -, c⟩ := byE (k := k) hA (by omega)
    exact (ih (by omega) (by omega)).buy (by rw [bysN_m]; omega) a b c
def oBys (A : XA) (s n : Int32) : XA × Int32 := match rgI 0 7 s with
  | none => rfI A 0 (-2)
  | some i => match rgI 3 39 n with
    | none => rfI A 0 (-2)
    | some n' => if n' % 3 = 0 then
        (match rrC A s with
          | some w => rfI A w (-2 - nI w)
          | none => if n' ≤ (aH A i).2.1 ∧ areB (aH A i).2.2 n' = true then
              (if sM (aS A) + n' / 3 ≤ 24 then (wS A (bysN (aS A) (aH A i).2.2 (n' / 3)), nI (sM (aS A) + n' / 3)) else rfI A 4 (-6))
            else rfI A 0 (-2))
      else rfI A 0 (-2)
theorem nR3 {k : Nat} (hk : k ≤ 1000000) : nI k - nI k / 3 * 3 = nI (k % 3) := by
  rw [show nI k / 3 = nI (k / 3) from nI_divN (by omega) (b := 3) (by decide), show nI (k / 3) * 3 = nI (k / 3 * 3) from nI_mul _ 3, nI_subN (by omega)]
  congr 1
  omega
theorem nD3 {k : Nat} (hk : k ≤ 1000000) : nI k / 3 = nI (k / 3) := nI_divN (by omega) (b := 3) (by decide)
theorem nA3 (k : Nat) : nI (3 * k) + 3 = nI (3 * (k + 1)) := nI_add (3 * k) 3
theorem nA2 (k : Nat) : nI (3 * k) + 2 = nI (3 * k + 2) := nI_add (3 * k) 2
theorem nA1 (k : Nat) : nI (3 * k) + 1 = nI (3 * k + 1) := nI_add (3 * k) 1
theorem n30 : ((3 : Int32) ≠ 0) = True := eq_true (by decide)
theorem tb4 {r : Nat} (hr : r < 3) : (tbv 4 r).toInt64 = bL r := by
  have : r = 0 ∨ r = 1 ∨ r = 2 := by omega
  rcases this with rfl | rfl | rfl <;> decide
theorem tb5 {r : Nat} (hr : r < 3) : (tbv 5 r).toInt64 = bM r := by
  have : r = 0 ∨ r = 1 ∨ r = 2 := by omega
  rcases this with rfl | rfl | rfl <;> decide
section
variable {b m x : Nat} {u : LU} {A : XA} {s : SG} {h h1 h3 : Hp} {K : Option Value → Hp → Prop}
theorem c126 (cn : CN b h) {e n : Nat} (hn : n ≤ 40) (ke : gK h e = 9) (ne : gN h e = 40) {f : Nat → Int64} (hf : ∀ j, j < 40 → gJ h e j = f j) : AM 126 [.ref e, .int (nI n)] h K = K (some (.int (z2 (areB f n)))) h := by
  obtain ⟨a4, y1, y2, y3, y4⟩ := cn.tb (j := 4) (by decide)
  obtain ⟨a5, z1, z2', z3, z4⟩ := cn.tb (j := 5) (by decide)
  have n4 : gN h a4 = 3 := y3
  have n5 : gN h a5 = 3 := z3
  have l : ∀ (d k : Nat) (v3 : Value), k + d = n → areB f k = true → V 126 2 [.ref e, .int (nI n), .int (nI k), v3] [] h K = K (some (.int (z2 (areB f n)))) h := by
    intro d
    induction d with
    | zero =>
      intro k v3 hk hA
      have ek : k = n := by omega
      subst ek
      have e8 : (nI k ≤ nI k) = True := eq_true (Int32.le_refl _)
      simp only [v126_2, v126_3, v126_4, v126_45, v126_46, bo_1, true_and, e8, reduceIte, hA]
      rfl
    | succ d ih =>
      intro k v3 hk hA
      have e8 : (nI n ≤ nI k) = False := eq_false (nI_ge (by omega) (by omega))
      have c1 : (nI k).toNatClampNeg = k := nIc (by omega)
      have i1 : inb (nI k) 40 = True := nIb (by omega) (by omega)
      have c2 : (nI (k % 3)).toNatClampNeg = k % 3 := nIc (by omega)
      have i2 : inb (nI (k % 3)) 3 = True := nIb (by omega) (by omega)
      have ee := hf k (by omega)
      have g4 : gI h a4 (k % 3) = tbv 4 (k % 3) := y4 (k % 3) (by show k % 3 < 3; omega)
      have g5 : gI h a5 (k % 3) = tbv 5 (k % 3) := z4 (k % 3) (by show k % 3 < 3; omega)
      have t4 := tb4 (r := k % 3) (by omega)
      have t5 := tb5 (r := k % 3) (by omega)
      have bad : bO k (f k) = false → K (some (.int 0)) h = K (some (.int (z2 (areB f n)))) h := fun hb => by
        have : areB f n = false := by
          cases ha : areB f n with
          | false => rfl
          | true =>
            have := areB_all.mp ha k (by omega)
            rw [hb] at this
            cases this
        rw [this]
        rfl
      by_cases g1 : f k < bL (k % 3)
      · simp only [v126_2, v126_3, v126_4, v126_7, v126_8, v126_9, v126_10, v126_11, v126_12, v126_13, v126_14, v126_17, v126_18, v126_19, v126_20, v126_21, v126_37, v126_38, bo_0, e8, n30, nR3 (show k ≤ 1000000 by omega), ke, ne, c1, i1, c2, i2, ee, y1, y2, n4, g4, t4, vrf_s, lg_lt, g1, reduceIte, true_and, true_or, or_true, and_self]
        refine bad (Bool.eq_false_iff.mpr (fun z => absurd (inJ_t.mp z).1 (Int64.not_le.mpr g1)))
      · by_cases g2 : f k ≤ bM (k % 3)
        · simp only [v126_2, v126_3, v126_4, v126_7, v126_8, v126_9, v126_10, v126_11, v126_12, v126_13, v126_14, v126_17, v126_18, v126_19, v126_20, v126_21, v126_24, v126_25, v126_26, v126_27, v126_30, v126_31, v126_32, v126_33, v126_34, v126_39, e8, n30, nR3 (show k ≤ 1000000 by omega), ke, ne, c1, i1, c2, i2, ee, y1, y2, n4, g4, t4, z1, z2', n5, g5, t5, vrf_s, lg_lt, lg_le, g1, g2, reduceIte, true_and, true_or, or_true, and_self, nI_1]
          rw [v126_42]
          refine ih (k + 1) _ (by omega) ?_
          show (areB f k && bO k (f k)) = true
          rw [hA, Bool.true_and]
          exact inJ_t.mpr ⟨Int64.not_lt.mp g1, g2⟩
        · simp only [v126_2, v126_3, v126_4, v126_7, v126_8, v126_9, v126_10, v126_11, v126_12, v126_13, v126_14, v126_17, v126_18, v126_19, v126_20, v126_21, v126_24, v126_25, v126_26, v126_27, v126_30, v126_31, v126_32, v126_33, v126_34, v126_37, v126_38, bo_0, e8, n30, nR3 (show k ≤ 1000000 by omega), ke, ne, c1, i1, c2, i2, ee, y1, y2, n4, g4, t4, z1, z2', n5, g5, t5, vrf_s, lg_lt, lg_le, g1, g2, reduceIte, true_and, true_or, or_true, and_self]
          refine bad (Bool.eq_false_iff.mpr (fun z => g2 (inJ_t.mp z).2))
  simp only [e126, v126_0, v126_1]
  exact l n 0 _ (Nat.zero_add _) rfl
theorem k63_l (hC : CL b A h) (hW : WF A) {i n : Nat} (hi : i < 8) (hn : n ≤ 40) (h3 : n % 3 = 0) (hA : areB (aH A i).2.2 n = true) (hm : sM (aS A) + n / 3 ≤ 24) (v1 v3 : Value) (kk : ∀ h2, Fr (CW b) h h2 → CL b (wS A (bysN (aS A) (aH A i).2.2 (n / 3))) h2 → K (some (.int (nI (sM (aS A) + n / 3)))) h2) :
    ∀ (d k : Nat) (h1 : Hp), k + d = n / 3 → Fr (CW b) h h1 → CL b (wS A (bysN (aS A) (aH A i).2.2 k)) h1 → V 63 109 [.ref b, v1, .int (nI n), v3, .ref (b + 122 + 2 * i), .int (nI (3 * k))] [] h1 K := by
  intro d
  induction d with
  | zero =>
    intro k h1 hk hf hC1
    have ek : k = n / 3 := by omega
    subst ek
    obtain ⟨⟨cn, kb, f0, f1, f3, f4, f5, f6⟩, ⟨ρ, β, hQ, hV, hO, -⟩, -⟩ := id hC1
    have y1 := hQ.1
    have em : gI h1 (b + 1) 3 = nI (sM (aS A) + n / 3) := by rw [← bysN_m]; exact hV.2.1
    have e8 : (nI n ≤ nI (3 * (n / 3) + 2)) = True := eq_true (nI_le (by omega) (by omega))
    simp only [v63_109, v63_111, v63_112, v63_113, v63_114, v63_162, v63_163, v63_166, v63_169, nA2, e8, kb, f0, f1, f3, f4, f5, f6, vrf_s, true_and, true_or, or_true, and_self, not_false_eq_true, pu_s, pu_n, z2_e0, z2_n0, z2_t, z2_f, y1, em, reduceIte]
    exact kk h1 hf hC1
  | succ d ih =>
    intro k h1 hk hf hC1
    obtain ⟨⟨cn, kb, f0, f1, f3, f4, f5, f6⟩, ⟨ρ, β, hQ, hV, hO, -⟩, -, -, -, ⟨s1, s2, s3⟩, -⟩ := id hC1
    obtain ⟨x1, x2, x3, x4, x5, x6, x7, x8⟩ := s3 i hi
    have y1 := hQ.1
    have e8 : (nI n ≤ nI (3 * k + 2)) = False := eq_false (nI_ge (by omega) (by omega))
    obtain ⟨⟨p1, p2⟩, ⟨q1, q2⟩, r1, r2⟩ := byE (k := k) hA (by omega)
    have E0 : (gJ h1 (b + 123 + 2 * i) (3 * k)).toInt32 = nI (mkE (aH A i).2.2 (3 * k)) := by rw [x8 _ (by omega)]; exact p1
    have E1 : (gJ h1 (b + 123 + 2 * i) (3 * k + 1)).toInt32 = nI (mkE (aH A i).2.2 (3 * k + 1)) := by rw [x8 _ (by omega)]; exact q1
    have E2 : (gJ h1 (b + 123 + 2 * i) (3 * k + 2)).toInt32 = nI (mkE (aH A i).2.2 (3 * k + 2)) := by rw [x8 _ (by omega)]; exact r1
    have c0 : (nI (3 * k)).toNatClampNeg = 3 * k := nIc (by omega)
    have i0 : inb (nI (3 * k)) 40 = True := nIb (by omega) (by omega)
    have c1 : (nI (3 * k + 1)).toNatClampNeg = 3 * k + 1 := nIc (by omega)
    have i1 : inb (nI (3 * k + 1)) 40 = True := nIb (by omega) (by omega)
    have c2 : (nI (3 * k + 2)).toNatClampNeg = 3 * k + 2 := nIc (by omega)
    have i2 : inb (nI (3 * k + 2)) 40 = True := nIb (by omega) (by omega)
    have hm1 : sM (bysN (aS A) (aH A i).2.2 k) < 24 := by rw [bysN_m]; omega
    simp only [v63_109, v63_111, v63_112, v63_113, v63_114, v63_117, v63_118, v63_121, v63_123, v63_126, v63_128, v63_129, v63_130, v63_132, v63_135, v63_137, v63_138, v63_139, v63_140, v63_141, v63_143, v63_146, v63_148, v63_149, v63_150, v63_151, v63_152, nA2, nA1, e8, kb, f0, f1, f3, f4, f5, f6, vrf_s, true_and, true_or, or_true, and_self, not_false_eq_true, pu_s, pu_n, z2_e0, z2_n0, z2_t, z2_f, y1, x2, x3, x4, x5, c0, i0, c1, i1, c2, i2, E0, E1, E2, reduceIte]
    refine c22 hQ hV hO hm1 p2 (fun h5 q5 hQ5 hV5 => ?_)
    have hW1 : WF (wS A (bysN (aS A) (aH A i).2.2 k)) := hW.ws (bysN_ok hW.1 hA k (by omega) (by omega)) (bysN_n _ _ _)
    have hC5 := hC1.ss hW1 q5 (fun x j z => by unfold BV at z; omega) hQ5 hV5 (bysN_ok hW.1 hA (k + 1) (by omega) (by omega))
    simp only [pu_s, v63_155, v63_156, nA3]
    rw [v63_159]
    exact ih (k + 1) h5 (by omega) (hf.tr (q5.mo (fun x j z => by unfold BV at z; unfold CW; omega))) hC5
theorem k63 (hC : CL b A h) (hW : WF A) (s n : Int32) (kk : ∀ h2, Fr (CW b) h h2 → CL b (oBys A s n).1 h2 → K (some (.int (oBys A s n).2)) h2) : AM 63 [.ref b, .int s, .int n] h K := by
  obtain ⟨⟨cn, kb, f0, f1, f3, f4, f5, f6⟩, hST, hKP, hTR, hTA, ⟨s1, s2, s3⟩, hRF⟩ := id hC
  unfold oBys at kk
  cases hs : rgI 0 7 s with
  | none =>
    rw [hs] at kk
    simp only [e63, v63_0, v63_1, v63_2, v63_5, v63_24, v63_25, v63_27, kb, f0, f1, f3, f4, f5, f6, vrf_s, true_and, true_or, or_true, and_self, not_false_eq_true, pu_s, pu_n, z2_e0, z2_n0, z2_t, z2_f, k110 hC, hs, Option.isSome_none, reduceIte]
    exact k108 (w := 0) hC hW (by decide) (by decide) (fun h2 q2 hC2 => by simp only [pu_s, v63_30]; exact kk h2 q2 hC2)
  | some i =>
    rw [hs] at kk
    cases hn : rgI 3 39 n with
    | none =>
      rw [hn] at kk
      simp only [e63, v63_0, v63_1, v63_2, v63_5, v63_8, v63_9, v63_10, v63_12, v63_15, v63_24, v63_25, v63_27, kb, f0, f1, f3, f4, f5, f6, vrf_s, true_and, true_or, or_true, and_self, not_false_eq_true, pu_s, pu_n, z2_e0, z2_n0, z2_t, z2_f, k110 hC, c123, ri_0_7, ri_0_4, ri_0_40, ri_0_5, ri_1_99, ri_1_9, ri_0_99, ri_0_9, ri_0_6, ri_0_3, ri_0_255, ri_1_24, ri_3_39, ri_0_1, ri_0_8, ri_0_2, ri_1_30, ri_0_14, ri_12_16, hs, hn, Option.isSome_some, i10, Option.isSome_none, reduceIte]
      exact k108 (w := 0) hC hW (by decide) (by decide) (fun h2 q2 hC2 => by simp only [pu_s, v63_30]; exact kk h2 q2 hC2)
    | some n' =>
      rw [hn] at kk
      dsimp only at kk
      obtain ⟨es, -, hs7⟩ := rgI_s (by decide) (by decide) hs
      obtain ⟨rfl, hn3, hn39⟩ := rgI_s (by decide) (by decide) hn
      have er : (nI (n' % 3) = 0) = (n' % 3 = 0) := neqN (c := 0) (by omega) (by decide)
      by_cases g3 : n' % 3 = 0
      · rw [if_pos g3] at kk
        have g3' : (n' % 3 = 0) = True := eq_true g3
        simp only [e63, v63_0, v63_1, v63_2, v63_5, v63_8, v63_9, v63_10, v63_12, v63_15, v63_18, v63_19, v63_20, v63_21, v63_31, v63_32, v63_33, kb, f0, f1, f3, f4, f5, f6, vrf_s, true_and, true_or, or_true, and_self, not_false_eq_true, pu_s, pu_n, z2_e0, z2_n0, z2_t, z2_f, k110 hC, k113 hC hW, c123, ri_0_7, ri_0_4, ri_0_40, ri_0_5, ri_1_99, ri_1_9, ri_0_99, ri_0_9, ri_0_6, ri_0_3, ri_0_255, ri_1_24, ri_3_39, ri_0_1, ri_0_8, ri_0_2, ri_1_30, ri_0_14, ri_12_16, hs, hn, Option.isSome_some, i10, n30, nR3 (show n' ≤ 1000000 by omega), er, g3', reduceIte]
        cases hr : rrC A s with
        | some w =>
          rw [hr] at kk
          have hw := rrC_lt hr
          have ne := rf_ne (w := w) (by omega)
          simp only [v63_36, v63_37, v63_38, v63_41, v63_42, v63_43, kb, true_and, ne, reduceIte]
          exact k108 hC hW (by omega) (rf_b (by omega)) (fun h2 q2 hC2 => by simp only [pu_s, v63_46]; exact kk h2 q2 hC2)
        | none =>
          rw [hr] at kk
          dsimp only at kk
          subst es
          obtain ⟨x1, x2, x3, x4, x5, x6, x7, x8⟩ := s3 i (by omega)
          have c1 : (nI i).toNatClampNeg = i := nIc (by omega)
          have i1 : inb (nI i) 8 = True := nIb (by omega) (by omega)
          have hl := (hW.2.2.2.2 i (by omega)).1
          have elt : (nI (aH A i).2.1 < nI n') = ((aH A i).2.1 < n') := nltN (by omega) (by omega)
          by_cases g4 : n' ≤ (aH A i).2.1
          · have g4' : ((aH A i).2.1 < n') = False := eq_false (by omega)
            have r126 : ∀ {K : Option Value → Hp → Prop}, AM 126 [.ref (b + 123 + 2 * i), .int (nI n')] h K = K (some (.int (z2 (areB (aH A i).2.2 n')))) h := fun {K} => c126 cn (by omega) x4 x5 x8
            cases g5 : areB (aH A i).2.2 n' with
            | false =>
              rw [g5, if_neg (fun z => Bool.false_ne_true z.2)] at kk
              simp only [v63_36, v63_37, v63_38, v63_47, v63_48, v63_51, v63_52, v63_53, v63_55, v63_57, v63_60, v63_61, v63_64, v63_66, v63_69, v63_70, v63_73, v63_76, v63_77, v63_79, kb, f0, f1, f3, f4, f5, f6, vrf_s, true_and, true_or, or_true, and_self, not_false_eq_true, pu_s, pu_n, z2_e0, z2_n0, z2_t, z2_f, s1, s2, c1, i1, x1, x2, x3, x7, elt, g4', r126, g5, not_true_eq_false, reduceIte]
              exact k108 (w := 0) hC hW (by decide) (by decide) (fun h2 q2 hC2 => by simp only [pu_s, v63_82]; exact kk h2 q2 hC2)
            | true =>
              rw [g5, if_pos ⟨g4, rfl⟩] at kk
              obtain ⟨ρ, β, hQ, hV, hO, -⟩ := id hST
              have y1 := hQ.1
              have hm24 := hO.2.1
              have e24 : (nI (sM (aS A) + n' / 3) ≤ 24) = (sM (aS A) + n' / 3 ≤ 24) := propext (nI_leI (b := 24) (by omega) (by decide))
              by_cases g6 : sM (aS A) + n' / 3 ≤ 24
              · rw [if_pos g6] at kk
                simp only [v63_36, v63_37, v63_38, v63_47, v63_48, v63_51, v63_52, v63_53, v63_55, v63_57, v63_60, v63_61, v63_64, v63_66, v63_69, v63_70, v63_73, v63_83, v63_84, v63_87, v63_90, v63_91, v63_92, v63_93, v63_94, v63_96, v63_106, v63_107, kb, f0, f1, f3, f4, f5, f6, vrf_s, true_and, true_or, or_true, and_self, not_false_eq_true, pu_s, pu_n, z2_e0, z2_n0, z2_t, z2_f, s1, s2, c1, i1, x1, x2, x3, x7, elt, g4', r126, g5, Bool.true_eq_false, y1, hV.2.1, n30, nD3 (show n' ≤ 1000000 by omega), nI_add, e24, g6, i10, reduceIte]
                exact k63_l hC hW (by omega) (by omega) g3 g5 g6 _ _ kk (n' / 3) 0 h (Nat.zero_add _) Fr.rf hC
              · rw [if_neg g6] at kk
                simp only [v63_36, v63_37, v63_38, v63_47, v63_48, v63_51, v63_52, v63_53, v63_55, v63_57, v63_60, v63_61, v63_64, v63_66, v63_69, v63_70, v63_73, v63_83, v63_84, v63_87, v63_90, v63_91, v63_92, v63_93, v63_94, v63_96, v63_99, v63_100, v63_102, kb, f0, f1, f3, f4, f5, f6, vrf_s, true_and, true_or, or_true, and_self, not_false_eq_true, pu_s, pu_n, z2_e0, z2_n0, z2_t, z2_f, s1, s2, c1, i1, x1, x2, x3, x7, elt, g4', r126, g5, Bool.true_eq_false, y1, hV.2.1, n30, nD3 (show n' ≤ 1000000 by omega), nI_add, e24, g6, i10, reduceIte]
                exact k108 (w := 4) hC hW (by decide) (by decide) (fun h2 q2 hC2 => by simp only [pu_s, v63_105]; exact kk h2 q2 hC2)
          · have g4' : ((aH A i).2.1 < n') = True := eq_true (by omega)
            rw [if_neg (fun z => g4 z.1)] at kk
            simp only [v63_36, v63_37, v63_38, v63_47, v63_48, v63_51, v63_52, v63_53, v63_55, v63_57, v63_60, v63_61, v63_76, v63_77, v63_79, kb, f0, f1, f3, f4, f5, f6, vrf_s, true_and, true_or, or_true, and_self, not_false_eq_true, pu_s, pu_n, z2_e0, z2_n0, z2_t, z2_f, s1, s2, c1, i1, x1, x2, x7, elt, g4', not_true_eq_false, reduceIte]
            exact k108 (w := 0) hC hW (by decide) (by decide) (fun h2 q2 hC2 => by simp only [pu_s, v63_82]; exact kk h2 q2 hC2)
      · rw [if_neg g3] at kk
        simp only [e63, v63_0, v63_1, v63_2, v63_5, v63_8, v63_9, v63_10, v63_12, v63_15, v63_18, v63_19, v63_20, v63_21, v63_24, v63_25, v63_27, kb, f0, f1, f3, f4, f5, f6, vrf_s, true_and, true_or, or_true, and_self, not_false_eq_true, pu_s, pu_n, z2_e0, z2_n0, z2_t, z2_f, k110 hC, c123, ri_0_7, ri_0_4, ri_0_40, ri_0_5, ri_1_99, ri_1_9, ri_0_99, ri_0_9, ri_0_6, ri_0_3, ri_0_255, ri_1_24, ri_3_39, ri_0_1, ri_0_8, ri_0_2, ri_1_30, ri_0_14, ri_12_16, hs, hn, Option.isSome_some, i10, n30, nR3 (show n' ≤ 1000000 by omega), er, g3, reduceIte]
        exact k108 (w := 0) hC hW (by decide) (by decide) (fun h2 q2 hC2 => by simp only [pu_s, v63_30]; exact kk h2 q2 hC2)
theorem areB_3 {f : Nat → Int64} {k : Nat} : areB f (3 * (k + 1)) = (areB f (3 * k) && (inJ (f (3 * k)) 0 6 && inJ (f (3 * k + 1)) 0 3 && inJ (f (3 * k + 2)) 1 99)) := by
  show (((areB f (3 * k) && bO (3 * k) (f (3 * k))) && bO (3 * k + 1) (f (3 * k + 1))) && bO (3 * k + 2) (f (3 * k + 2))) = _
  rw [bO_0, bO_1, bO_2]
  simp only [Bool.and_assoc]
theorem k153_1 (hR : MR m u A h) {i n : Nat} (hi : i < 8) (hn : n ≤ 40) (h3 : n % 3 = 0) (v1 v3 : Value) (kt : areB (aH A i).2.2 n = true → V 153 123 [.ref m, v1, .int (nI n), v3, .ref (m + (5 + i)), .int (nI n)] [] h K) (kf : ∀ v5, areB (aH A i).2.2 n = false → V 153 110 [.ref m, v1, .int (nI n), v3, .ref (m + (5 + i)), v5] [] h K) :
    ∀ (d k : Nat), k + d = n / 3 → areB (aH A i).2.2 (3 * k) = true → V 153 79 [.ref m, v1, .int (nI n), v3, .ref (m + (5 + i)), .int (nI (3 * k))] [] h K := by
  obtain ⟨r0, hM, hpp, hP, hQ, hS, hT, hF, hL⟩ := id hR
  obtain ⟨y1, y2, y3, y4⟩ := hS i hi
  obtain ⟨w1, w2, w3⟩ := hM.rw hi
  intro d
  induction d with
  | zero =>
    intro k hk hA
    have ek : 3 * k = n := by omega
    rw [ek] at hA ⊢
    have e8 : (nI n ≤ nI n) = True := eq_true (Int32.le_refl _)
    simp only [v153_79, v153_81, v153_82, e8, reduceIte]
    exact kt hA
  | succ d ih =>
    intro k hk hA
    have e8 : (nI n ≤ nI (3 * k)) = False := eq_false (nI_ge (by omega) (by omega))
    have E0 := y4 (3 * k) (by omega)
    have E1 := y4 (3 * k + 1) (by omega)
    have E2 := y4 (3 * k + 2) (by omega)
    have c0 : (nI (3 * k)).toNatClampNeg = 3 * k := nIc (by omega)
    have i0 : inb (nI (3 * k)) 40 = True := nIb (by omega) (by omega)
    have c1 : (nI (3 * k + 1)).toNatClampNeg = 3 * k + 1 := nIc (by omega)
    have i1 : inb (nI (3 * k + 1)) 40 = True := nIb (by omega) (by omega)
    have c2 : (nI (3 * k + 2)).toNatClampNeg = 3 * k + 2 := nIc (by omega)
    have i2 : inb (nI (3 * k + 2)) 40 = True := nIb (by omega) (by omega)
    cases g : (inJ ((aH A i).2.2 (3 * k)) 0 6 && inJ ((aH A i).2.2 (3 * k + 1)) 0 3 && inJ ((aH A i).2.2 (3 * k + 2)) 1 99) with
    | true =>
      simp only [v153_79, v153_81, v153_82, v153_85, v153_87, v153_89, v153_90, v153_92, v153_94, v153_95, v153_96, v153_97, v153_99, v153_101, v153_102, v153_103, v153_104, v153_107, v153_117, nA1, nA2, nA3, e8, w2, w3, c0, i0, c1, i1, c2, i2, E0, E1, E2, c150, g, pu_s, pu_n, z2_e0, z2_n0, z2_t, z2_f, i10, not_false_eq_true, true_and, reduceIte]
      rw [v153_120]
      exact ih (k + 1) (by omega) (by rw [areB_3, hA, g]; rfl)
    | false =>
      simp only [v153_79, v153_81, v153_82, v153_85, v153_87, v153_89, v153_90, v153_92, v153_94, v153_95, v153_96, v153_97, v153_99, v153_101, v153_102, v153_103, v153_104, v153_107, nA1, nA2, e8, w2, w3, c0, i0, c1, i1, c2, i2, E0, E1, E2, c150, g, pu_s, pu_n, z2_e0, z2_n0, z2_t, z2_f, not_true_eq_false, true_and, reduceIte]
      refine kf _ ?_
      cases ha : areB (aH A i).2.2 n with
      | false => rfl
      | true =>
        have hb := areB_all.mp ha
        have : areB (aH A i).2.2 (3 * (k + 1)) = true := areB_all.mpr (fun j hj => hb j (by omega))
        rw [areB_3, hA, g] at this
        cases this
theorem k153_2 (hR : MR m u A h) (hW : WF A) {i n : Nat} (hi : i < 8) (hn : n ≤ 40) (h3 : n % 3 = 0) (hA : areB (aH A i).2.2 n = true) (hm : sM (aS A) + n / 3 ≤ 24) (v1 v3 : Value) (kk : ∀ h2, MG m h h2 → MR m u (wS A (bysN (aS A) (aH A i).2.2 (n / 3))) h2 → K (some (.int (nI (sM (aS A) + n / 3)))) h2) :
    ∀ (d k : Nat) (h1 : Hp), k + d = n / 3 → Fr (fun x _ => m ≤ x) h h1 → MR m u (wS A (bysN (aS A) (aH A i).2.2 k)) h1 → V 153 146 [.ref m, v1, .int (nI n), v3, .ref (m + (5 + i)), .int (nI (3 * k))] [] h1 K := by
  intro d
  induction d with
  | zero =>
    intro k h1 hk hf hR1
    have ek : k = n / 3 := by omega
    subst ek
    obtain ⟨r0, hM, hpp, hP, hQ, hS, hT, hF, hL⟩ := id hR1
    have em : gI h1 m 11 = nI (sM (aS A) + n / 3) := by rw [← bysN_m]; exact hP.2.1
    have e8 : (nI n ≤ nI (3 * (n / 3))) = True := eq_true (nI_le (by omega) (by omega))
    simp only [v153_146, v153_148, v153_149, v153_185, v153_186, v153_189, e8, hM.k0, em, true_and, reduceIte]
    exact kk h1 (MG.of hf (fun a j z => z)) hR1
  | succ d ih =>
    intro k h1 hk hf hR1
    obtain ⟨r0, hM, hpp, hP, hQ, hS, hT, hF, hL⟩ := id hR1
    obtain ⟨y1, y2, y3, y4⟩ := hS i hi
    obtain ⟨w1, w2, w3⟩ := hM.rw hi
    have e8 : (nI n ≤ nI (3 * k)) = False := eq_false (nI_ge (by omega) (by omega))
    obtain ⟨⟨p1, p2⟩, ⟨q1, q2⟩, r1, r2⟩ := byE (k := k) hA (by omega)
    have E0 : (gJ h1 (m + (5 + i)) (3 * k)).toInt32 = nI (mkE (aH A i).2.2 (3 * k)) := by rw [y4 _ (by omega)]; exact p1
    have E1 : (gJ h1 (m + (5 + i)) (3 * k + 1)).toInt32 = nI (mkE (aH A i).2.2 (3 * k + 1)) := by rw [y4 _ (by omega)]; exact q1
    have E2 : (gJ h1 (m + (5 + i)) (3 * k + 2)).toInt32 = nI (mkE (aH A i).2.2 (3 * k + 2)) := by rw [y4 _ (by omega)]; exact r1
    have c0 : (nI (3 * k)).toNatClampNeg = 3 * k := nIc (by omega)
    have i0 : inb (nI (3 * k)) 40 = True := nIb (by omega) (by omega)
    have c1 : (nI (3 * k + 1)).toNatClampNeg = 3 * k + 1 := nIc (by omega)
    have i1 : inb (nI (3 * k + 1)) 40 = True := nIb (by omega) (by omega)
    have c2 : (nI (3 * k + 2)).toNatClampNeg = 3 * k + 2 := nIc (by omega)
    have i2 : inb (nI (3 * k + 2)) 40 = True := nIb (by omega) (by omega)
    have hm1 : sM (bysN (aS A) (aH A i).2.2 k) < 24 := by rw [bysN_m]; omega
    have hok := bysN_ok hW.1 hA k (by omega) (by omega)
    simp only [v153_146, v153_148, v153_149, v153_152, v153_153, v153_155, v153_157, v153_158, v153_159, v153_161, v153_163, v153_164, v153_165, v153_166, v153_167, v153_169, v153_171, v153_172, v153_173, v153_174, v153_175, nA1, nA2, e8, hM.k0, w2, w3, c0, i0, c1, i1, c2, i2, E0, E1, E2, true_and, reduceIte]
    refine c151 hM hP hok hm1 p2 (fun h5 q5 hP5 => ?_)
    have hW1 : WF (wS A (bysN (aS A) (aH A i).2.2 k)) := hW.ws hok (bysN_n _ _ _)
    have hR5 := hR1.ss hW1 q5 (fun a j z => by unfold BX at z; omega) hP5
    simp only [pu_s, v153_178, v153_179, nA3]
    rw [v153_182]
    exact ih (k + 1) h5 (by omega) (hf.tr (q5.mo (fun x j z => by unfold BX at z; omega))) hR5
theorem k153 (hR : MR m u A h) (hW : WF A) (s n : Int32) (kk : ∀ (h2 : Hp) (u2 : LU), MG m h h2 → MR m u2 (oBys A s n).1 h2 → K (some (.int (oBys A s n).2)) h2) : AM 153 [.ref m, .int s, .int n] h K := by
  obtain ⟨r0, hM, hpp, hP, hQ, hS, hT, hF, hL⟩ := id hR
  unfold oBys at kk
  replace kk := fun h2 => kk h2 u
  cases hs : rgI 0 7 s with
  | none =>
    rw [hs] at kk
    simp only [e153, v153_0, v153_1, v153_2, v153_3, v153_6, v153_9, v153_32, v153_33, v153_35, c135, rj_0_7, rj_0_4, rj_0_40, rj_0_5, rj_1_99, rj_1_9, rj_0_99, rj_0_9, rj_0_6, rj_0_3, rj_0_255, rj_1_24, rj_3_39, rj_0_1, rj_0_8, rj_0_2, rj_1_30, rj_0_14, rj_12_16, hs, hM.f0, hM.f1, hM.f2, hM.f3, hM.f4, hM.f5, hM.f6, hM.f8, hM.f10, hM.f12, hM.f13, hM.f25, hM.f27, hM.f28, hM.f36, hM.f37, hM.f38, hM.f40, hM.k0, hM.k1, hM.k2, hM.k3, hM.k4, hM.k13, hM.k14, hM.k15, hM.k16, hM.k17, hM.k26, hM.k51, hM.k52, hM.k53, hM.k54, hM.k55, hM.k56, hM.k57, hM.k58, hM.n1, hM.n2, hM.n3, hM.n4, hM.n13, hM.n14, hM.n15, hM.n16, hM.n17, hM.n26, hM.n51, hM.n52, hM.n53, hM.n54, hM.n55, hM.n56, hM.n57, hM.n58, vrf_s, true_or, or_true, true_and, and_true, and_self, not_false_eq_true, pu_s, pu_n, z2_e0, z2_n0, z2_t, z2_f, Option.isSome_none, reduceIte]
    exact k134 (w := 0) hR hW (by decide) (by decide) (fun h2 q2 hR2 => by simp only [pu_s, v153_38]; exact kk h2 (MG.of q2 (fun a j z => by omega)) hR2)
  | some i =>
    rw [hs] at kk
    cases hn : rgI 3 39 n with
    | none =>
      rw [hn] at kk
      simp only [e153, v153_0, v153_1, v153_2, v153_3, v153_6, v153_9, v153_12, v153_13, v153_14, v153_17, v153_20, v153_23, v153_32, v153_33, v153_35, c135, rj_0_7, rj_0_4, rj_0_40, rj_0_5, rj_1_99, rj_1_9, rj_0_99, rj_0_9, rj_0_6, rj_0_3, rj_0_255, rj_1_24, rj_3_39, rj_0_1, rj_0_8, rj_0_2, rj_1_30, rj_0_14, rj_12_16, hs, hn, hM.f0, hM.f1, hM.f2, hM.f3, hM.f4, hM.f5, hM.f6, hM.f8, hM.f10, hM.f12, hM.f13, hM.f25, hM.f27, hM.f28, hM.f36, hM.f37, hM.f38, hM.f40, hM.k0, hM.k1, hM.k2, hM.k3, hM.k4, hM.k13, hM.k14, hM.k15, hM.k16, hM.k17, hM.k26, hM.k51, hM.k52, hM.k53, hM.k54, hM.k55, hM.k56, hM.k57, hM.k58, hM.n1, hM.n2, hM.n3, hM.n4, hM.n13, hM.n14, hM.n15, hM.n16, hM.n17, hM.n26, hM.n51, hM.n52, hM.n53, hM.n54, hM.n55, hM.n56, hM.n57, hM.n58, vrf_s, true_or, or_true, true_and, and_true, and_self, not_false_eq_true, pu_s, pu_n, z2_e0, z2_n0, z2_t, z2_f, Option.isSome_some, i10, Option.isSome_none, reduceIte]
      exact k134 (w := 0) hR hW (by decide) (by decide) (fun h2 q2 hR2 => by simp only [pu_s, v153_38]; exact kk h2 (MG.of q2 (fun a j z => by omega)) hR2)
    | some n' =>
      rw [hn] at kk
      dsimp only at kk
      obtain ⟨es, -, hs7⟩ := rgI_s (by decide) (by decide) hs
      obtain ⟨rfl, hn3, hn39⟩ := rgI_s (by decide) (by decide) hn
      have er : (nI (n' % 3) = 0) = (n' % 3 = 0) := neqN (c := 0) (by omega) (by decide)
      by_cases g3 : n' % 3 = 0
      · rw [if_pos g3] at kk
        have g3' : (n' % 3 = 0) = True := eq_true g3
        simp only [e153, v153_0, v153_1, v153_2, v153_3, v153_6, v153_9, v153_12, v153_13, v153_14, v153_17, v153_20, v153_23, v153_26, v153_27, v153_28, v153_29, v153_39, v153_40, v153_41, c135, rj_0_7, rj_0_4, rj_0_40, rj_0_5, rj_1_99, rj_1_9, rj_0_99, rj_0_9, rj_0_6, rj_0_3, rj_0_255, rj_1_24, rj_3_39, rj_0_1, rj_0_8, rj_0_2, rj_1_30, rj_0_14, rj_12_16, hs, hn, hM.f0, hM.f1, hM.f2, hM.f3, hM.f4, hM.f5, hM.f6, hM.f8, hM.f10, hM.f12, hM.f13, hM.f25, hM.f27, hM.f28, hM.f36, hM.f37, hM.f38, hM.f40, hM.k0, hM.k1, hM.k2, hM.k3, hM.k4, hM.k13, hM.k14, hM.k15, hM.k16, hM.k17, hM.k26, hM.k51, hM.k52, hM.k53, hM.k54, hM.k55, hM.k56, hM.k57, hM.k58, hM.n1, hM.n2, hM.n3, hM.n4, hM.n13, hM.n14, hM.n15, hM.n16, hM.n17, hM.n26, hM.n51, hM.n52, hM.n53, hM.n54, hM.n55, hM.n56, hM.n57, hM.n58, vrf_s, true_or, or_true, true_and, and_true, and_self, not_false_eq_true, pu_s, pu_n, z2_e0, z2_n0, z2_t, z2_f, Option.isSome_some, i10, n30, nR3 (show n' ≤ 1000000 by omega), er, g3', reduceIte]
        refine k140 hR hW s (fun hr => ?_) (fun w h2 hr q2 hR2 => ?_)
        · rw [hr] at kk
          dsimp only at kk
          subst es
          obtain ⟨y1, y2, y3, y4⟩ := hS i (by omega)
          obtain ⟨w1, w2, w3⟩ := hM.rw (show i < 8 by omega)
          have c1 : (nI i).toNatClampNeg = i := nIc (by omega)
          have i1 : inb (nI i) 8 = True := nIb (by omega) (by omega)
          have hl := (hW.2.2.2.2 i (by omega)).1
          have ele : (nI n' ≤ nI (aH A i).2.1) = (n' ≤ (aH A i).2.1) := propext (nI_leI (by omega) (by omega))
          by_cases g4 : n' ≤ (aH A i).2.1
          · simp only [v153_44, v153_45, v153_46, v153_51, v153_52, v153_55, v153_56, v153_57, v153_58, v153_68, v153_69, v153_72, v153_73, v153_74, v153_76, v153_77, pu_s, hM.f0, hM.f1, hM.f2, hM.f3, hM.f4, hM.f5, hM.f6, hM.f8, hM.f10, hM.f12, hM.f13, hM.f25, hM.f27, hM.f28, hM.f36, hM.f37, hM.f38, hM.f40, hM.k0, hM.k1, hM.k2, hM.k3, hM.k4, hM.k13, hM.k14, hM.k15, hM.k16, hM.k17, hM.k26, hM.k51, hM.k52, hM.k53, hM.k54, hM.k55, hM.k56, hM.k57, hM.k58, hM.n1, hM.n2, hM.n3, hM.n4, hM.n13, hM.n14, hM.n15, hM.n16, hM.n17, hM.n26, hM.n51, hM.n52, hM.n53, hM.n54, hM.n55, hM.n56, hM.n57, hM.n58, vrf_s, true_or, or_true, true_and, and_true, and_self, not_false_eq_true, c1, i1, y3, ele, g4, w1, reduceIte, vrf_s]
            refine k153_1 hR (by omega) (by omega) g3 _ _ (fun hA => ?_) (fun v5 hA => ?_) (n' / 3) 0 (Nat.zero_add _) rfl
            · rw [hA, if_pos ⟨g4, rfl⟩] at kk
              have hm24 := hW.1.2.1
              have e24 : (nI (sM (aS A) + n' / 3) ≤ 24) = (sM (aS A) + n' / 3 ≤ 24) := propext (nI_leI (b := 24) (by omega) (by decide))
              by_cases g6 : sM (aS A) + n' / 3 ≤ 24
              · rw [if_pos g6] at kk
                simp only [v153_123, v153_124, v153_127, v153_128, v153_129, v153_130, v153_131, v153_133, v153_143, v153_144, hM.f0, hM.f1, hM.f2, hM.f3, hM.f4, hM.f5, hM.f6, hM.f8, hM.f10, hM.f12, hM.f13, hM.f25, hM.f27, hM.f28, hM.f36, hM.f37, hM.f38, hM.f40, hM.k0, hM.k1, hM.k2, hM.k3, hM.k4, hM.k13, hM.k14, hM.k15, hM.k16, hM.k17, hM.k26, hM.k51, hM.k52, hM.k53, hM.k54, hM.k55, hM.k56, hM.k57, hM.k58, hM.n1, hM.n2, hM.n3, hM.n4, hM.n13, hM.n14, hM.n15, hM.n16, hM.n17, hM.n26, hM.n51, hM.n52, hM.n53, hM.n54, hM.n55, hM.n56, hM.n57, hM.n58, vrf_s, true_or, or_true, true_and, and_true, and_self, not_false_eq_true, hP.2.1, n30, nD3 (show n' ≤ 1000000 by omega), nI_add, e24, g6, reduceIte]
                exact k153_2 hR hW (by omega) (by omega) g3 hA g6 _ _ kk (n' / 3) 0 h (Nat.zero_add _) Fr.rf hR
              · rw [if_neg g6] at kk
                simp only [v153_123, v153_124, v153_127, v153_128, v153_129, v153_130, v153_131, v153_133, v153_136, v153_137, v153_139, hM.f0, hM.f1, hM.f2, hM.f3, hM.f4, hM.f5, hM.f6, hM.f8, hM.f10, hM.f12, hM.f13, hM.f25, hM.f27, hM.f28, hM.f36, hM.f37, hM.f38, hM.f40, hM.k0, hM.k1, hM.k2, hM.k3, hM.k4, hM.k13, hM.k14, hM.k15, hM.k16, hM.k17, hM.k26, hM.k51, hM.k52, hM.k53, hM.k54, hM.k55, hM.k56, hM.k57, hM.k58, hM.n1, hM.n2, hM.n3, hM.n4, hM.n13, hM.n14, hM.n15, hM.n16, hM.n17, hM.n26, hM.n51, hM.n52, hM.n53, hM.n54, hM.n55, hM.n56, hM.n57, hM.n58, vrf_s, true_or, or_true, true_and, and_true, and_self, not_false_eq_true, hP.2.1, n30, nD3 (show n' ≤ 1000000 by omega), nI_add, e24, g6, reduceIte]
                exact k134 (w := 4) hR hW (by decide) (by decide) (fun h2 q2 hR2 => by simp only [pu_s, v153_142]; exact kk h2 (MG.of q2 (fun a j z => by omega)) hR2)
            · rw [hA, if_neg (fun z => Bool.false_ne_true z.2)] at kk
              simp only [v153_110, v153_111, v153_113, hM.k0, true_and]
              exact k134 (w := 0) hR hW (by decide) (by decide) (fun h2 q2 hR2 => by simp only [pu_s, v153_116]; exact kk h2 (MG.of q2 (fun a j z => by omega)) hR2)
          · rw [if_neg (fun z => g4 z.1)] at kk
            simp only [v153_44, v153_45, v153_46, v153_51, v153_52, v153_55, v153_56, v153_57, v153_58, v153_61, v153_62, v153_64, pu_s, hM.f0, hM.f1, hM.f2, hM.f3, hM.f4, hM.f5, hM.f6, hM.f8, hM.f10, hM.f12, hM.f13, hM.f25, hM.f27, hM.f28, hM.f36, hM.f37, hM.f38, hM.f40, hM.k0, hM.k1, hM.k2, hM.k3, hM.k4, hM.k13, hM.k14, hM.k15, hM.k16, hM.k17, hM.k26, hM.k51, hM.k52, hM.k53, hM.k54, hM.k55, hM.k56, hM.k57, hM.k58, hM.n1, hM.n2, hM.n3, hM.n4, hM.n13, hM.n14, hM.n15, hM.n16, hM.n17, hM.n26, hM.n51, hM.n52, hM.n53, hM.n54, hM.n55, hM.n56, hM.n57, hM.n58, vrf_s, true_or, or_true, true_and, and_true, and_self, not_false_eq_true, c1, i1, y3, ele, g4, reduceIte]
            exact k134 (w := 0) hR hW (by decide) (by decide) (fun h2 q2 hR2 => by simp only [pu_s, v153_67]; exact kk h2 (MG.of q2 (fun a j z => by omega)) hR2)
        · rw [hr] at kk
          have ne := rf_ne (w := w) (by have := rrC_lt hr; omega)
          simp only [pu_s, v153_44, v153_45, v153_46, v153_49, v153_50, ne, reduceIte]
          exact kk h2 (MG.of q2 (fun a j z => by omega)) hR2
      · rw [if_neg g3] at kk
        simp only [e153, v153_0, v153_1, v153_2, v153_3, v153_6, v153_9, v153_12, v153_13, v153_14, v153_17, v153_20, v153_23, v153_26, v153_27, v153_28, v153_29, v153_32, v153_33, v153_35, c135, rj_0_7, rj_0_4, rj_0_40, rj_0_5, rj_1_99, rj_1_9, rj_0_99, rj_0_9, rj_0_6, rj_0_3, rj_0_255, rj_1_24, rj_3_39, rj_0_1, rj_0_8, rj_0_2, rj_1_30, rj_0_14, rj_12_16, hs, hn, hM.f0, hM.f1, hM.f2, hM.f3, hM.f4, hM.f5, hM.f6, hM.f8, hM.f10, hM.f12, hM.f13, hM.f25, hM.f27, hM.f28, hM.f36, hM.f37, hM.f38, hM.f40, hM.k0, hM.k1, hM.k2, hM.k3, hM.k4, hM.k13, hM.k14, hM.k15, hM.k16, hM.k17, hM.k26, hM.k51, hM.k52, hM.k53, hM.k54, hM.k55, hM.k56, hM.k57, hM.k58, hM.n1, hM.n2, hM.n3, hM.n4, hM.n13, hM.n14, hM.n15, hM.n16, hM.n17, hM.n26, hM.n51, hM.n52, hM.n53, hM.n54, hM.n55, hM.n56, hM.n57, hM.n58, vrf_s, true_or, or_true, true_and, and_true, and_self, not_false_eq_true, pu_s, pu_n, z2_e0, z2_n0, z2_t, z2_f, Option.isSome_some, i10, n30, nR3 (show n' ≤ 1000000 by omega), er, g3, reduceIte]
        exact k134 (w := 0) hR hW (by decide) (by decide) (fun h2 q2 hR2 => by simp only [pu_s, v153_38]; exact kk h2 (MG.of q2 (fun a j z => by omega)) hR2)
end
