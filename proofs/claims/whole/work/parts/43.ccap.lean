/-! THE CLASS'S capPay -/
section
variable {r a o : Nat} {ρ β : Nat → Nat} {s : SG} {h h1 : Hp} {K : Option Value → Hp → Prop}
/-- capped so far -/
def PC (o : Nat) (s : SG) (t p so d : Nat) (h : Hp) : Prop := ∀ so' t' d', so' < 4 → t' < sN s → d' ≤ cntN (dwB s) (sN s) → gI h (o + 5) ((so' * 8 + t') * 9 + d') = nI (if t' = t ∧ (so' < so ∨ (so' = so ∧ d' < d)) then cpN (some (t, p)) t' (payN so' (sT s t' 0) (sT s t' 1) (sT s t' 4) d') else payN so' (sT s t' 0) (sT s t' 1) (sT s t' 4) d')
theorem c3_d (hS : OSh o a h) (hO : SOk s) {t p so : Nat} (ht : t < sN s) (hp : p ≤ 99) (hso : so < 4) (kk : ∀ (h2 : Hp) (v5 : Value), Fr (fun x _ => x = o + 5) h h2 → PC o s t p (so + 1) 0 h2 → V 3 50 [.ref o, .int (nI t), .int (nI p), .int (nI so), .int (nI 9), v5] [] h2 K) :
    ∀ (j d : Nat) (h1 : Hp) (v5 : Value), d + j = 9 → Fr (fun x _ => x = o + 5) h h1 → PC o s t p so d h1 → V 3 10 [.ref o, .int (nI t), .int (nI p), .int (nI so), .int (nI d), v5] [] h1 K := by
  have hn8 := hO.1
  have hcn := cntN_le (dwB s) (sN s)
  intro j
  induction j with
  | zero =>
    intro d h1 v5 hi hf hP
    have e : d = 9 := by omega
    subst e
    have e8 : ((8 : Int32) < nI 9) = True := eq_true (by decide)
    simp only [v3_10, v3_12, v3_14, e8, reduceIte]
    refine kk h1 v5 hf (fun so' t' d' q1 q2 q3 => ?_)
    rw [hP so' t' d' q1 q2 q3]
    have : (t' = t ∧ (so' < so ∨ so' = so ∧ d' < 9)) = (t' = t ∧ (so' < so + 1 ∨ so' = so + 1 ∧ d' < 0)) := propext ⟨fun z => ⟨z.1, by omega⟩, fun z => ⟨z.1, by omega⟩⟩
    simp only [this]
  | succ j ih =>
    intro d h1 v5 hi hf hP
    obtain ⟨w1, w2, w3, w4, w5, w6, w7, w8, w9, w10, w11, w12, w13, w14, w15, w16, w17, w18, w19, w20⟩ := id hS
    have k1 : gK h1 o = 1 := hf.k.trans w1
    have r9 : gR h1 o 9 = some (o + 5) := (hf.r (fun z => by omega)).trans w6
    have k5 : gK h1 (o + 5) = 8 := hf.k.trans w13
    have n5 : gN h1 (o + 5) = 288 := hf.n.trans w19
    have lt : ((8 : Int32) < nI d) = False := eq_false (nI_nlt (a := 8) (by omega) (by decide))
    have ix : (nI so * 8 + nI t) * 9 + nI d = nI ((so * 8 + t) * 9 + d) := by rw [show nI so * 8 = nI (so * 8) from nI_mul _ 8, nI_add, nM9, nI_add]
    have cx : (nI ((so * 8 + t) * 9 + d)).toNatClampNeg = (so * 8 + t) * 9 + d := nIc (by omega)
    have i2 : inb (nI ((so * 8 + t) * 9 + d)) 288 = True := nIb (by omega) (by omega)
    simp only [v3_10, v3_12, v3_14, v3_17, v3_18, v3_19, v3_21, v3_24, v3_26, v3_27, v3_30, v3_32, v3_33, v3_36, v3_38, v3_39, v3_40, v3_43, v3_44, lt, reduceIte, k1, r9, k5, n5, vrf_s, c2, pu_s, ix, cx, i2, true_and, true_or, and_self, nI_1]
    rw [v3_47]
    refine ih (d + 1) _ _ (by omega) (hf.pI rfl) (fun so' t' d' q1 q2 q3 => ?_)
    by_cases e : (so' * 8 + t') * 9 + d' = (so * 8 + t) * 9 + d
    · have x1 : so' = so := by omega
      have x2 : t' = t := by omega
      have x3 : d' = d := by omega
      subst x1 x2 x3
      have hp0 := hP so' t' d' q1 q2 q3
      rw [if_neg (by omega)] at hp0
      have hpos : t' = t' ∧ (so' < so' ∨ so' = so' ∧ d' < d' + 1) := ⟨rfl, Or.inr ⟨rfl, by omega⟩⟩
      rw [gI_at, hp0, if_pos hpos]
      obtain ⟨b0, -, b1, -, -, -, b4, -, -⟩ := hO.2.2.1 t' ht
      have pl := payN_le (s := so') (k := sT s t' 0) b1 b4 (show d' ≤ 8 by omega)
      simp only [nltN (show p < 2 ^ 31 by omega) (show payN so' (sT s t' 0) (sT s t' 1) (sT s t' 4) d' < 2 ^ 31 by omega), nite]
      unfold cpN
      simp only [true_and]
    · rw [gI_ne (fun z => e z.2), hP so' t' d' q1 q2 q3]
      have : (t' = t ∧ (so' < so ∨ so' = so ∧ d' < d)) = (t' = t ∧ (so' < so ∨ so' = so ∧ d' < d + 1)) := propext ⟨fun z => ⟨z.1, by omega⟩, fun z => ⟨z.1, by
        rcases z with ⟨rfl, z | ⟨rfl, z⟩⟩
        · exact Or.inl z
        · refine Or.inr ⟨rfl, ?_⟩
          have : d' ≠ d := fun y => e (by rw [y])
          omega⟩⟩
      simp only [this]
theorem c3_s (hS : OSh o a h) (hO : SOk s) {t p : Nat} (ht : t < sN s) (hp : p ≤ 99) (kk : ∀ (h2 : Hp), Fr (fun x _ => x = o + 5) h h2 → PC o s t p 4 0 h2 → K none h2) :
    ∀ (j so : Nat) (h1 : Hp) (v4 v5 : Value), so + j = 4 → Fr (fun x _ => x = o + 5) h h1 → PC o s t p so 0 h1 → V 3 2 [.ref o, .int (nI t), .int (nI p), .int (nI so), v4, v5] [] h1 K := by
  intro j
  induction j with
  | zero =>
    intro so h1 v4 v5 hi hf hP
    have e : so = 4 := by omega
    subst e
    have e8 : ((4 : Int32) ≤ nI 4) = True := eq_true (by decide)
    simp only [v3_2, v3_3, v3_4, e8, reduceIte, v3_56]
    exact kk h1 hf hP
  | succ j ih =>
    intro so h1 v4 v5 hi hf hP
    have e8 : ((4 : Int32) ≤ nI so) = False := eq_false (nI_ge (b := 4) (by omega) (by decide))
    simp only [v3_2, v3_3, v3_4, e8, reduceIte, v3_7, v3_8]
    have hS1 : OSh o a h1 := hS.pv (hf.mo (fun x j z => Or.inl z))
    refine c3_d hS1 hO ht hp (show so < 4 by omega) (fun h2 v5 q2 hP2 => ?_) 9 0 h1 _ rfl Fr.rf hP
    simp only [v3_50, nI_1]
    rw [v3_53]
    exact ih (so + 1) h2 _ _ (by omega) (hf.tr q2) hP2
/-- capPay -/
theorem c3 (hS : OSh o a h) (hO : SOk s) (hT : OT o s none h) {t p : Nat} (ht : t < sN s) (hp : p ≤ 99) (kk : ∀ (h2 : Hp), Fr (fun x _ => x = o + 5) h h2 → OT o s (some (t, p)) h2 → K none h2) : AM 3 [.ref o, .int (nI t), .int (nI p)] h K := by
  simp only [e3, v3_0, v3_1]
  refine c3_s hS hO ht hp (fun h2 q2 hP => kk h2 q2 ⟨(q2.i (fun z => by omega)).trans hT.1, fun so t' d q1 q2 q3 => ?_⟩) 4 0 h _ _ rfl Fr.rf (fun so' t' d' q1 q2 q3 => ?_)
  · rw [hP so t' d q1 q2 q3]
    by_cases e : t' = t
    · rw [if_pos ⟨e, Or.inl q1⟩]
    · rw [if_neg (fun z => e z.1)]
      unfold cpN
      simp only [e, false_and, reduceIte]
  · rw [if_neg (fun z => by omega)]
    exact hT.2 so' t' d' q1 q2 q3
end
