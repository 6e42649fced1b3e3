/-! THE STALL in numbers; a morning in numbers -/
theorem ib7_0 : inb (0 : Int32) 7 = True := eq_true (by decide)
theorem ib7_1 : inb (1 : Int32) 7 = True := eq_true (by decide)
theorem ib7_2 : inb (2 : Int32) 7 = True := eq_true (by decide)
theorem ib7_3 : inb (3 : Int32) 7 = True := eq_true (by decide)
theorem ib7_4 : inb (4 : Int32) 7 = True := eq_true (by decide)
theorem ib7_5 : inb (5 : Int32) 7 = True := eq_true (by decide)
theorem ib7_6 : inb (6 : Int32) 7 = True := eq_true (by decide)
theorem ib3_0 : inb (0 : Int32) 3 = True := eq_true (by decide)
theorem ib3_1 : inb (1 : Int32) 3 = True := eq_true (by decide)
theorem ib3_2 : inb (2 : Int32) 3 = True := eq_true (by decide)
theorem ib4_0 : inb (0 : Int32) 4 = True := eq_true (by decide)
theorem ib4_1 : inb (1 : Int32) 4 = True := eq_true (by decide)
theorem ib4_2 : inb (2 : Int32) 4 = True := eq_true (by decide)
theorem ib4_3 : inb (3 : Int32) 4 = True := eq_true (by decide)
abbrev SG : Type := Nat × Nat × (Nat → Nat → Nat) × (Nat → Nat → Nat) × (Nat → Nat)
def sN (s : SG) : Nat := s.1
def sM (s : SG) : Nat := s.2.1
def sT (s : SG) : Nat → Nat → Nat := s.2.2.1
def sB (s : SG) : Nat → Nat → Nat := s.2.2.2.1
def sA (s : SG) : Nat → Nat := s.2.2.2.2
def SOk (s : SG) : Prop := sN s ≤ 8 ∧ sM s ≤ 24 ∧ (∀ t, t < sN s → sT s t 0 ≤ 5 ∧ 1 ≤ sT s t 1 ∧ sT s t 1 ≤ 99 ∧ 1 ≤ sT s t 2 ∧ sT s t 2 ≤ 9 ∧ sT s t 3 ≤ 99 ∧ sT s t 4 ≤ 9 ∧ sT s t 5 ≤ 99 ∧ sT s t 6 ≤ 7) ∧
  (∀ b, b < sM s → sB s b 0 ≤ 6 ∧ sB s b 1 ≤ 3 ∧ 1 ≤ sB s b 2 ∧ sB s b 2 ≤ 99) ∧ (∀ b c, b ≤ c → c < sM s → sB s b 0 ≤ sB s c 0) ∧ 1 ≤ sA s 0 ∧ sA s 0 ≤ 30 ∧ sA s 1 ≤ 14 ∧ sA s 2 ≤ 1 ∧ sA s 3 ≤ 9
/-- the reference's stall -/
def MP (m : Nat) (s : SG) (h : Hp) : Prop := gI h m 9 = nI (sN s) ∧ gI h m 11 = nI (sM s) ∧ (∀ t, t < sN s → ∀ k, k < 7 → gI h (m + (18 + t)) k = nI (sT s t k)) ∧
  (∀ b, b < sM s → ∀ k, k < 3 → gI h (m + (27 + b)) k = nI (sB s b k)) ∧ ∀ k, k < 4 → gI h (m + 51) k = nI (sA s k)
section
variable {m : Nat} {s : SG} {h h1 : Hp}
theorem MP.t (hP : MP m s h) {t : Nat} (ht : t < sN s) {k : Nat} (hk : k < 7) : gI h (m + (18 + t)) k = nI (sT s t k) := hP.2.2.1 t ht k hk
theorem MP.b (hP : MP m s h) {b : Nat} (hb : b < sM s) {k : Nat} (hk : k < 3) : gI h (m + (27 + b)) k = nI (sB s b k) := hP.2.2.2.1 b hb k hk
theorem MP.a (hP : MP m s h) {k : Nat} (hk : k < 4) : gI h (m + 51) k = nI (sA s k) := hP.2.2.2.2 k hk
theorem MP.fr {F : Nat → Nat → Prop} (hP : MP m s h) (hO : SOk s) (q : Fr F h h1) (hF : ∀ a j, F a j → ¬ (a = m ∧ (j = 9 ∨ j = 11)) ∧ ¬ (m + 18 ≤ a ∧ a < m + 26) ∧ ¬ (m + 27 ≤ a ∧ a < m + 52)) : MP m s h1 := by
  obtain ⟨p1, p2, p3, p4, p5⟩ := hP
  obtain ⟨o1, o2, -⟩ := hO
  refine ⟨(q.i (fun z => (hF _ _ z).1 ⟨rfl, Or.inl rfl⟩)).trans p1, (q.i (fun z => (hF _ _ z).1 ⟨rfl, Or.inr rfl⟩)).trans p2, fun t ht k hk => ?_, fun b hb k hk => ?_, fun k hk => ?_⟩
  · exact (q.i (fun z => (hF _ _ z).2.1 (by omega))).trans (p3 t ht k hk)
  · exact (q.i (fun z => (hF _ _ z).2.2 (by omega))).trans (p4 b hb k hk)
  · exact (q.i (fun z => (hF _ _ z).2.2 (by omega))).trans (p5 k hk)
end
/-- what a thing costs in an hour -/
def prN (s : SG) (t hr : Nat) : Nat := if hr = 6 then sT s t 3 else if sT s t 5 - sT s t 5 * sA s 1 * hr / 100 < sT s t 3 then sT s t 3 else sT s t 5 - sT s t 5 * sA s 1 * hr / 100
theorem prN_in {s : SG} (hO : SOk s) {t hr : Nat} (ht : t < sN s) (hh : hr ≤ 6) : sT s t 5 * sA s 1 * hr / 100 ≤ sT s t 5 ∧ sT s t 5 * sA s 1 * hr ≤ 9000 := by
  have h1 := (hO.2.2.1 t ht).2.2.2.2.2.2.2.1
  have h2 : sA s 1 * hr ≤ 14 * 6 := Nat.mul_le_mul hO.2.2.2.2.2.2.2.1 hh
  have h3 : sT s t 5 * (sA s 1 * hr) ≤ sT s t 5 * 84 := Nat.mul_le_mul_left _ h2
  rw [Nat.mul_assoc]
  omega
theorem prN_le {s : SG} (hO : SOk s) {t hr : Nat} (ht : t < sN s) : prN s t hr ≤ 99 := by
  have h1 := (hO.2.2.1 t ht).2.2.2.2.2.2.2.1
  have h2 := (hO.2.2.1 t ht).2.2.2.2.2.1
  unfold prN
  split
  · omega
  · split <;> omega
section
variable {m : Nat} {s : SG} {h : Hp} {K : Option Value → Hp → Prop}
theorem c176 (hM : MSh m h) (hP : MP m s h) (hO : SOk s) {t hr : Nat} (ht : t < sN s) (hh : hr ≤ 6) : AM 176 [.ref m, .int (nI t), .int (nI hr)] h K = K (some (.int (nI (prN s t hr)))) h := by
  have ht8 : t < 8 := Nat.lt_of_lt_of_le ht hO.1
  obtain ⟨t1, t2, t3⟩ := hM.th ht8
  have c1 : (nI t).toNatClampNeg = t := nIc (by omega)
  have i1 : inb (nI t) 8 = True := nIb ht8 (by omega)
  have e3 := hP.t ht (k := 3) (by omega)
  have e5 := hP.t ht (k := 5) (by omega)
  have a1 := hP.a (k := 1) (by omega)
  have b5 := (hO.2.2.1 t ht).2.2.2.2.2.2.2.1
  have b3 := (hO.2.2.1 t ht).2.2.2.2.2.1
  obtain ⟨q1, q2⟩ := prN_in hO ht hh
  have ar : nI (sT s t 5) - nI (sT s t 5) * nI (sA s 1) * nI hr / 100 = nI (sT s t 5 - sT s t 5 * sA s 1 * hr / 100) := by rw [nM, nM, nD100 (by omega), nI_subN q1]
  have l6 : (nI hr = 6) = (hr = 6) := (nLit (s := hr) (by omega)).2.2.2.2.2.2
  have l3 : (nI (sT s t 3) ≤ nI (sT s t 5 - sT s t 5 * sA s 1 * hr / 100)) = (sT s t 3 ≤ sT s t 5 - sT s t 5 * sA s 1 * hr / 100) := nleN (by omega) (by omega)
  simp only [v176_0, v176_1, v176_4, v176_5, v176_6, v176_7, v176_8, v176_9, v176_10, v176_11, v176_12, v176_13, v176_14, v176_17, v176_18, v176_19, v176_20, v176_21, v176_22, v176_24, v176_25, v176_26, v176_28, v176_29, v176_31, v176_34, v176_36, v176_37, v176_38, v176_39, v176_42, v176_43, v176_44, v176_45, v176_48, v176_50, e176, hM.f0, hM.f1, hM.f2, hM.f3, hM.f4, hM.f5, hM.f6, hM.f8, hM.f10, hM.f12, hM.f13, hM.f25, hM.f27, hM.f28, hM.f36, hM.f37, hM.f38, hM.f40, hM.k0, hM.k1, hM.k2, hM.k3, hM.k4, hM.k13, hM.k14, hM.k15, hM.k16, hM.k17, hM.k26, hM.k51, hM.k52, hM.k53, hM.k54, hM.k55, hM.k56, hM.k57, hM.k58, hM.n1, hM.n2, hM.n3, hM.n4, hM.n13, hM.n14, hM.n15, hM.n16, hM.n17, hM.n26, hM.n51, hM.n52, hM.n53, hM.n54, hM.n55, hM.n56, hM.n57, hM.n58, vrf_s, true_or, or_true, true_and, and_true, and_self, not_false_eq_true, ib7_0, ib7_1, ib7_2, ib7_3, ib7_4, ib7_5, ib7_6, ib3_0, ib3_1, ib3_2, ib4_0, ib4_1, ib4_2, ib4_3, tc0, tc1, tc2, tc3, tc4, tc5, tc6, t1, t2, t3, c1, i1, e3, e5, a1, ar, l6, l3, ne_eq, show ¬ (100 : Int32) = 0 from by decide]
  unfold prN
  by_cases h6 : hr = 6
  · rw [if_pos h6, if_pos h6]
  · rw [if_neg h6, if_neg h6]
    by_cases hl : sT s t 3 ≤ sT s t 5 - sT s t 5 * sA s 1 * hr / 100
    · rw [if_pos hl, if_neg (by omega)]
    · rw [if_neg hl, if_pos (by omega)]
/-- all sold marks are taken away -/
theorem c179_l (hM : MSh m h) : ∀ (j i : Nat) (h1 : Hp), i + j = 8 → Fr (fun a _ => a = m + 53) h h1 → (∀ t, t < i → gI h1 (m + 53) t = 0) → (∀ h2, Fr (fun a _ => a = m + 53) h h2 → (∀ t, t < 8 → gI h2 (m + 53) t = 0) → K none h2) → V 179 2 [.ref m, .int (nI i)] [] h1 K := by
  intro j
  induction j with
  | zero =>
    intro i h1 hi hf hz kk
    have e8 : (8 : Int32) ≤ nI i := nI_le (a := 8) (by omega) (by omega)
    simp only [v179_0, v179_1, v179_2, v179_3, v179_5, v179_8, v179_9, v179_12, v179_13, v179_14, v179_15, v179_21, e8, reduceIte]
    exact kk h1 hf (fun t ht => hz t (by omega))
  | succ j ih =>
    intro i h1 hi hf hz kk
    have e8 : ¬ (8 : Int32) ≤ nI i := nI_ge (b := 8) (by omega) (by decide)
    have hM1 : MSh m h1 := hM.fr hf (fun a _ z => by subst z; exact ⟨by omega, fun w => by omega⟩)
    have c1 : (nI i).toNatClampNeg = i := nIc (by omega)
    have i1 : inb (nI i) 8 = True := nIb (by omega) (by omega)
    simp only [v179_0, v179_1, v179_2, v179_3, v179_5, v179_8, v179_9, v179_12, v179_13, v179_14, v179_15, v179_21, e8, reduceIte, hM1.k0, hM1.f27, hM1.k53, hM1.n53, vrf_s, i1, c1, true_and, and_self, true_or, nI_1]
    rw [v179_18]
    refine ih (i + 1) _ (by omega) (hf.pI rfl) (fun t ht => ?_) kk
    by_cases e : t = i
    · subst e; exact gI_at _ _ _ _
    · rw [gI_ne (fun z => e z.2)]
      exact hz t (by omega)
theorem c179 (hM : MSh m h) (kk : ∀ h2, Fr (fun a _ => a = m + 53) h h2 → (∀ t, t < 8 → gI h2 (m + 53) t = 0) → K none h2) : AM 179 [.ref m] h K := by
  simp only [e179, v179_0, v179_1]
  exact c179_l hM 8 0 h rfl Fr.rf (fun t ht => absurd ht (Nat.not_lt_zero t)) kk
end
