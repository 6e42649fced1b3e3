/-! THE CLASS'S MORNING: serve -/
def whB (bu : Nat → Option Nat) : Nat → Nat → Option Nat
  | 0, _ => none
  | b + 1, t => if bu b = some t then some b else whB bu b t
def tiB (ho pd : Nat → Nat) : Nat → Nat → Nat
  | 0, _ => 0
  | b + 1, x => tiB ho pd b x + if ho b = x then pd b else 0
theorem whB_congr {f g : Nat → Option Nat} (t : Nat) : ∀ b : Nat, (∀ u, u < b → f u = g u) → whB f b t = whB g b t
  | 0, _ => rfl
  | b + 1, hc => by unfold whB; rw [whB_congr t b (fun u hu => hc u (by omega)), hc b (by omega)]
theorem tiB_congr {ho f g : Nat → Nat} (x : Nat) : ∀ b : Nat, (∀ u, u < b → f u = g u) → tiB ho f b x = tiB ho g b x
  | 0, _ => rfl
  | b + 1, hc => by unfold tiB; rw [tiB_congr x b (fun u hu => hc u (by omega)), hc b (by omega)]
theorem tiB_le {ho f : Nat → Nat} (x : Nat) : ∀ b : Nat, (∀ u, u < b → f u ≤ 99) → tiB ho f b x ≤ 99 * b
  | 0, _ => Nat.le_refl _
  | b + 1, hc => by
    have ih := tiB_le (ho := ho) x b (fun u hu => hc u (by omega))
    have := hc b (by omega)
    unfold tiB
    split <;> omega
/-- the morning in the class, up to the buyer b -/
def DC (o : Nat) (s : SG) (M : MS) (ons : Nat → Nat) (b : Nat) (h : Hp) : Prop := (∀ t, t < 8 → gI h (o + 1) t = oI (whB (mB M) b t)) ∧ (∀ u, u < b → gI h (o + 2) u = oI (mB M u)) ∧ (∀ u, u < b → gI h (o + 3) u = nI (ons u)) ∧
  (∀ x, x < 7 → gI h (o + 4) x = nI (tiB (fun u => sB s u 0) (mD M) b x)) ∧ gI h o 4 = nI (mK M) ∧ gI h o 12 = nI (msk (mC M) b) ∧ gI h o 13 = nI (msk (mS M) 8)
/-- the offer in the class -/
def GP (o : Nat) (π : PR) (h : Hp) : Prop := gI h o 15 = oI ((pOff π).map (fun q => q.1)) ∧ ∀ q, pOff π = some q → gI h o 16 = nI q.2.1
def OV (o : Nat) (x j : Nat) : Prop := (x = o + 1 ∨ x = o + 2 ∨ x = o + 3 ∨ x = o + 4) ∨ (x = o ∧ (j = 4 ∨ j = 12 ∨ j = 13))
theorem OV.w {o : Nat} : ∀ x j : Nat, OV o x j → OW o x j := fun x j z => by unfold OV at z; unfold OW; omega
section
variable {o a : Nat} {ρ β : Nat → Nat} {s : SG} {π : PR} {h h1 : Hp} {K : Option Value → Hp → Prop}
theorem GP.ow (hG : GP o π h) (q : Fr (OW o) h h1) : GP o π h1 := ⟨(q.i (fun z => by unfold OW at z; omega)).trans hG.1, fun w hw => (q.i (fun z => by unfold OW at z; omega)).trans (hG.2 w hw)⟩
theorem DC.base {M : MS} {ons : Nat → Nat} {b : Nat} (hD : DC o s M ons b h) (co : Bool) {h' : Hp} (q1 : ∀ t, gI h' (o + 1) t = gI h (o + 1) t) (q2 : ∀ u, u ≠ b → gI h' (o + 2) u = gI h (o + 2) u) (q2' : gI h' (o + 2) b = -1) (q3 : ∀ u, u ≠ b → gI h' (o + 3) u = gI h (o + 3) u) (q3' : gI h' (o + 3) b = nI (ons b)) (q4 : ∀ x, gI h' (o + 4) x = gI h (o + 4) x) (q5 : gI h' o 4 = gI h o 4) (q6 : gI h' o 12 = nI (if co = true then msk (mC M) b ||| 2 ^ b else msk (mC M) b)) (q7 : gI h' o 13 = gI h o 13) :
    DC o s (mS M, mK M, up (mC M) b co, up (mB M) b none, up (mD M) b 0) ons (b + 1) h' := by
  obtain ⟨d1, d2, d3, d4, d5, d6, d7⟩ := hD
  refine ⟨fun t ht => ?_, fun u hu => ?_, fun u hu => ?_, fun x hx => ?_, q5.trans d5, ?_, q7.trans d7⟩
  · rw [q1, d1 t ht]
    show _ = oI (if up (mB M) b none b = some t then some b else whB (up (mB M) b none) b t)
    rw [up_at, if_neg (by simp), whB_congr t b (fun u hu => up_ne (by omega))]
  · show _ = oI (up (mB M) b none u)
    by_cases e : u = b
    · subst e; rw [q2', up_at]; rfl
    · rw [q2 u e, d2 u (by omega), up_ne e]
  · by_cases e : u = b
    · subst e; exact q3'
    · rw [q3 u e, d3 u (by omega)]
  · rw [q4, d4 x hx]
    show _ = nI (tiB (fun u => sB s u 0) (up (mD M) b 0) b x + if sB s b 0 = x then up (mD M) b 0 b else 0)
    rw [up_at, ite_self, Nat.add_zero, tiB_congr (f := up (mD M) b 0) (g := mD M) x b (fun u hu => up_ne (by omega))]
  · rw [q6]
    show _ = nI (if up (mC M) b co b = true then msk (up (mC M) b co) b ||| 2 ^ b else msk (up (mC M) b co) b)
    rw [up_at, msk_congr (g := mC M) b (fun t ht => up_ne (by omega))]
theorem DC.sale {M : MS} {ons : Nat → Nat} {b t p : Nat} (ht8 : t < 8) (hb0 : sB s b 0 ≤ 6) (hD : DC o s (mS M, mK M, up (mC M) b true, up (mB M) b none, up (mD M) b 0) ons (b + 1) h) {h' : Hp} (hh : h' = pI (pI (pI (pI (pI h (o + 2) b (nI t)) (o + 1) t (nI b)) o 13 (nI (msk (mS M) 8 ||| 2 ^ t))) o 4 (nI (mK M + p))) (o + 4) (sB s b 0) (nI (tiB (fun u => sB s u 0) (mD M) b (sB s b 0) + p))) :
    DC o s (up (mS M) t true, mK M + p, up (mC M) b true, up (mB M) b (some t), up (mD M) b p) ons (b + 1) h' := by
  obtain ⟨d1, d2, d3, d4, d5, d6, d7⟩ := hD
  subst hh
  refine ⟨fun u hu => ?_, fun u hu => ?_, fun u hu => ?_, fun x hx => ?_, ?_, ?_, ?_⟩
  · show _ = oI (if up (mB M) b (some t) b = some u then some b else whB (up (mB M) b (some t)) b u)
    rw [up_at, whB_congr u b (fun w hw => (up_ne (show w ≠ b by omega)).trans (up_ne (f := mB M) (v := none) (show w ≠ b by omega)).symm)]
    have e1 := d1 u hu
    change gI h (o + 1) u = oI (if up (mB M) b none b = some u then some b else whB (up (mB M) b none) b u) at e1
    rw [up_at, if_neg (by simp)] at e1
    by_cases e : t = u
    · subst e
      rw [if_pos rfl, gI_ne (by omega), gI_ne (by omega), gI_ne (by omega), gI_at]
      rfl
    · rw [if_neg (fun z => e (Option.some.inj z)), gI_ne (by omega), gI_ne (by omega), gI_ne (by omega), gI_ne (by omega), gI_ne (by omega), e1]
  · show _ = oI (up (mB M) b (some t) u)
    by_cases e : u = b
    · subst e
      rw [up_at, gI_ne (by omega), gI_ne (by omega), gI_ne (by omega), gI_ne (by omega), gI_at]
      rfl
    · rw [up_ne e, gI_ne (by omega), gI_ne (by omega), gI_ne (by omega), gI_ne (by omega), gI_ne (by omega), d2 u hu]
      show oI (up (mB M) b none u) = _
      rw [up_ne e]
  · rw [gI_ne (by omega), gI_ne (by omega), gI_ne (by omega), gI_ne (by omega), gI_ne (by omega), d3 u hu]
  · show _ = nI (tiB (fun u => sB s u 0) (up (mD M) b p) b x + if sB s b 0 = x then up (mD M) b p b else 0)
    have e1 := d4 x hx
    change gI h (o + 4) x = nI (tiB (fun u => sB s u 0) (up (mD M) b 0) b x + if sB s b 0 = x then up (mD M) b 0 b else 0) at e1
    rw [up_at, ite_self, Nat.add_zero, tiB_congr x b (fun u hu => up_ne (f := mD M) (v := 0) (show u ≠ b by omega))] at e1
    rw [up_at, tiB_congr x b (fun u hu => up_ne (f := mD M) (v := p) (show u ≠ b by omega))]
    by_cases e : sB s b 0 = x
    · subst e
      rw [if_pos rfl, gI_at]
    · rw [if_neg e, gI_ne (by omega), gI_ne (by omega), gI_ne (by omega), gI_ne (by omega), gI_ne (by omega), e1, Nat.add_zero]
  · rw [gI_ne (by omega), gI_at]
    rfl
  · rw [gI_ne (by omega), gI_ne (by omega), gI_ne (by omega), gI_ne (by omega), gI_ne (by omega)]
    exact d6
  · rw [gI_ne (by omega), gI_ne (by omega), gI_at]
    congr 1
    apply Nat.eq_of_testBit_eq
    intro i
    rw [Nat.testBit_or, msk_t, Nat.testBit_two_pow, msk_t]
    by_cases e : t = i
    · subst e
      show _ = (decide (t < 8) && up (mS M) t true t)
      simp [ht8, up_at]
    · show _ = (decide (i < 8) && up (mS M) t true i)
      rw [up_ne (fun z => e z.symm)]
      simp [e]
theorem c10_s (hS : OSh o a h) (hQ : SQ a ρ β h) (hP : SV a ρ β s h) (hO : SOk s) {M : MS} {b t p : Nat} (hb : b < sM s) (ht8 : t < 8) (ho : a + 36 ≤ o) (e4 : gI h o 4 = nI (mK M)) (e13 : gI h o 13 = nI (msk (mS M) 8)) (ex : gI h (o + 4) (sB s b 0) = nI (tiB (fun u => sB s u 0) (mD M) b (sB s b 0))) (v3 v4 : Value) :
    V 10 119 [.ref o, .int (nI b), .ref (β b), v3, v4, .int (nI t), .int (nI p)] [] h K = K (some (.int 1)) (pI (pI (pI (pI (pI h (o + 2) b (nI t)) (o + 1) t (nI b)) o 13 (nI (msk (mS M) 8 ||| 2 ^ t))) o 4 (nI (mK M + p))) (o + 4) (sB s b 0) (nI (tiB (fun u => sB s u 0) (mD M) b (sB s b 0) + p))) := by
  have hb8 : b < 24 := Nat.lt_of_lt_of_le hb hO.2.1
  obtain ⟨w1, w2, w3, w4, w5, w6, w7, w8, w9, w10, w11, w12, w13, w14, w15, w16, w17, w18, w19, w20⟩ := hS
  obtain ⟨u1, u2, u3, u4, u5⟩ := hQ.by hb8
  have f0 := hP.b hb (k := 0) (by omega)
  obtain ⟨g0, -, -, -⟩ := hO.2.2.2.1 b hb
  have c1 : (nI t).toNatClampNeg = t := nIc (by omega)
  have c2 : (nI b).toNatClampNeg = b := nIc (by omega)
  have c3 : (nI (sB s b 0)).toNatClampNeg = sB s b 0 := nIc (by omega)
  have i1 : inb (nI t) 8 = True := nIb (by omega) (by omega)
  have i2 : inb (nI b) 24 = True := nIb (by omega) (by omega)
  have i3 : inb (nI (sB s b 0)) 7 = True := nIb (by omega) (by omega)
  have sh := nShl t (by omega)
  have n1 : ∀ x y : Int32, gI (pI (pI h (o + 2) b x) (o + 1) t y) o 13 = gI h o 13 := fun x y => by rw [gI_ne (by omega), gI_ne (by omega)]
  have n2 : ∀ x y z : Int32, gI (pI (pI (pI h (o + 2) b x) (o + 1) t y) o 13 z) o 4 = gI h o 4 := fun x y z => by rw [gI_ne (by omega), gI_ne (by omega), gI_ne (by omega)]
  have n3 : ∀ x y z w : Int32, gI (pI (pI (pI (pI h (o + 2) b x) (o + 1) t y) o 13 z) o 4 w) (β b) 0 = gI h (β b) 0 := fun x y z w => by rw [gI_ne (by omega), gI_ne (by omega), gI_ne (by omega), gI_ne (by omega)]
  have n4 : ∀ x y z w : Int32, gI (pI (pI (pI (pI h (o + 2) b x) (o + 1) t y) o 13 z) o 4 w) (o + 4) (sB s b 0) = gI h (o + 4) (sB s b 0) := fun x y z w => by rw [gI_ne (by omega), gI_ne (by omega), gI_ne (by omega), gI_ne (by omega)]
  simp only [v10_119, v10_120, v10_123, v10_124, v10_126, v10_127, v10_128, v10_131, v10_133, v10_134, v10_135, v10_136, v10_137, v10_140, v10_141, v10_143, v10_144, v10_145, v10_148, v10_149, v10_150, v10_153, v10_155, v10_156, v10_159, v10_160, v10_163, v10_164, v10_165, v10_166, v10_167, v10_168, v10_170, v10_171, v10_172, v10_173, gI_pJ, gI_pR, gJ_pI, gJ_pR, gR_pI, gR_pJ, gK_pI, gK_pJ, gK_pR, gN_pI, gN_pJ, gN_pR, gX_pI, gX_pJ, gX_pR, gS_pI, gS_pJ, gS_pR, gK_cpI, gN_cpI, gK_cpJ, gN_cpJ, gR_cpI, gR_cpJ, gJ_cpI, gI_cpJ, w1, w2, w3, w5, w9, w10, w12, w15, w16, w18, vrf_s, c1, c2, c3, i1, i2, i3, ib7_0, ib7_1, ib7_2, ib7_3, ib7_4, ib7_5, ib7_6, ib3_0, ib3_1, ib3_2, ib4_0, ib4_1, ib4_2, ib4_3, tc0, tc1, tc2, tc3, tc4, tc5, tc6, u2, u3, sh, nOr, nI_add, n1, n2, n3, n4, e4, e13, ex, f0, true_and, true_or, and_self, bo_1]
end
