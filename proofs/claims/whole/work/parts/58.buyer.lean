/-! BUYERS: one comes to the list, on both sides -/
def ipN (f : Nat → Nat) (hr : Nat) : Nat → Nat
  | 0 => 0
  | p + 1 => if hr < f p then ipN f hr p else p + 1
theorem ipN_le (f : Nat → Nat) (hr : Nat) : ∀ n : Nat, ipN f hr n ≤ n
  | 0 => Nat.le_refl _
  | p + 1 => by
    have ih := ipN_le f hr p
    unfold ipN
    split <;> omega
theorem ipN_up (f : Nat → Nat) (hr : Nat) : ∀ n i : Nat, ipN f hr n ≤ i → i < n → hr < f i
  | 0, i, _, h => absurd h (Nat.not_lt_zero i)
  | p + 1, i, h1, h2 => by
    unfold ipN at h1
    split at h1
    · rename_i q
      by_cases e : i = p
      · subst e; exact q
      · exact ipN_up f hr p i h1 (by omega)
    · omega
theorem ipN_lo (f : Nat → Nat) (hr : Nat) : ∀ n : Nat, ipN f hr n = 0 ∨ f (ipN f hr n - 1) ≤ hr
  | 0 => Or.inl rfl
  | p + 1 => by
    have ih := ipN_lo f hr p
    unfold ipN
    split
    · exact ih
    · exact Or.inr (by rw [Nat.add_sub_cancel]; omega)
/-- the row of a buyer -/
def byC (hr so pu : Nat) (j : Nat) : Nat := if j = 0 then hr else if j = 1 then so else pu
def plN (s : SG) (hr : Nat) : Nat := ipN (fun b => sB s b 0) hr (sM s)
def sgB (s : SG) (hr so pu : Nat) : SG := (sN s, sM s + 1, sT s, fun b => if b < plN s hr then sB s b else if b = plN s hr then byC hr so pu else sB s (b - 1), sA s)
theorem SOk.buy {s : SG} (hO : SOk s) {hr so pu : Nat} (hm : sM s < 24) (h0 : hr ≤ 6) (h1 : so ≤ 3) (h2 : 1 ≤ pu ∧ pu ≤ 99) : SOk (sgB s hr so pu) := by
  obtain ⟨o1, o2, o3, o4, o5, o6⟩ := hO
  have l1 := ipN_le (fun b => sB s b 0) hr (sM s)
  have l2 := ipN_up (fun b => sB s b 0) hr (sM s)
  have l3 := ipN_lo (fun b => sB s b 0) hr (sM s)
  change plN s hr ≤ sM s at l1
  change ∀ i, plN s hr ≤ i → i < sM s → hr < sB s i 0 at l2
  change plN s hr = 0 ∨ sB s (plN s hr - 1) 0 ≤ hr at l3
  have eB : ∀ b, sB (sgB s hr so pu) b = if b < plN s hr then sB s b else if b = plN s hr then byC hr so pu else sB s (b - 1) := fun b => rfl
  refine ⟨o1, hm, o3, fun b hb => ?_, fun b c hbc hc => ?_, o6⟩
  · have hb' : b < sM s + 1 := hb
    rw [eB]
    split
    · exact o4 b (by omega)
    · split
      · exact ⟨h0, h1, h2.1, h2.2⟩
      · exact o4 (b - 1) (by omega)
  · have hc' : c < sM s + 1 := hc
    rw [eB, eB]
    by_cases b1 : b < plN s hr
    · rw [if_pos b1]
      have lo : sB s b 0 ≤ hr := by
        rcases l3 with z | z
        · omega
        · exact Nat.le_trans (o5 b (plN s hr - 1) (by omega) (by omega)) z
      by_cases c1 : c < plN s hr
      · rw [if_pos c1]; exact o5 b c hbc (by omega)
      · rw [if_neg c1]
        by_cases c2 : c = plN s hr
        · rw [if_pos c2]; exact lo
        · rw [if_neg c2]
          have := l2 (c - 1) (by omega) (by omega)
          omega
    · rw [if_neg b1, if_neg (show ¬ c < plN s hr by omega)]
      by_cases b2 : b = plN s hr
      · rw [if_pos b2]
        by_cases c2 : c = plN s hr
        · rw [if_pos c2]; exact Nat.le_refl _
        · rw [if_neg c2]
          have := l2 (c - 1) (by omega) (by omega)
          show hr ≤ sB s (c - 1) 0
          omega
      · rw [if_neg b2, if_neg (show ¬ c = plN s hr by omega)]
        exact o5 (b - 1) (c - 1) (by omega) (by omega)
theorem nDc (p : Nat) : nI (p + 1) + -1 = nI p := by
  have := nI_pred p
  rw [Int32.sub_eq_add_neg] at this
  exact this
section
variable {a : Nat} {ρ β : Nat → Nat} {s : SG} {m : Nat} {F : Nat → Nat → Prop} {h h1 : Hp} {K : Option Value → Hp → Prop}
/-- the rows change places -/
theorem SQ.permB (hQ : SQ a ρ β h) (w : Fr F h h1) (hF : ∀ x j, F x j → x = a + 10 ∨ (x = a ∧ j = 3) ∨ (a + 11 ≤ x ∧ x < a + 35)) (σ : Nat → Nat) (hs : ∀ i, i < 24 → σ i < 24) (hi : ∀ i j, i < 24 → j < 24 → σ i = σ j → i = j) (hr : ∀ i, i < 24 → gR h1 (a + 10) i = some (β (σ i))) : SQ a ρ (fun i => β (σ i)) h1 := by
  obtain ⟨q1, q2, q3, q4, q5, q6, q7, q8, q9, q10, q11, q12, q13, q14⟩ := hQ
  refine ⟨w.k.trans q1, (w.r (fun z => by have := hF _ _ z; omega)).trans q2, (w.r (fun z => by have := hF _ _ z; omega)).trans q3, (w.r (fun z => by have := hF _ _ z; omega)).trans q4, w.k.trans q5, w.n.trans q6, w.k.trans q7, w.n.trans q8, w.k.trans q9, w.n.trans q10, fun i hi => ?_, fun i hi => ?_, q13, fun i j h1 h2 h3 => hi i j h1 h2 (q14 _ _ (hs i h1) (hs j h2) h3)⟩
  · obtain ⟨e1, e2, e3, e4⟩ := q11 i hi
    exact ⟨(w.r (fun z => by have := hF _ _ z; omega)).trans e1, w.k.trans e2, w.n.trans e3, e4⟩
  · obtain ⟨e1, e2, e3, e4⟩ := q12 (σ i) (hs i hi)
    exact ⟨hr i hi, w.k.trans e2, w.n.trans e3, e4⟩
theorem SQ.permT (hQ : SQ a ρ β h) (w : Fr F h h1) (hF : ∀ x j, F x j → x = a + 1 ∨ (x = a ∧ j = 1) ∨ (a + 2 ≤ x ∧ x < a + 10)) (σ : Nat → Nat) (hs : ∀ i, i < 8 → σ i < 8) (hi : ∀ i j, i < 8 → j < 8 → σ i = σ j → i = j) (hr : ∀ i, i < 8 → gR h1 (a + 1) i = some (ρ (σ i))) : SQ a (fun i => ρ (σ i)) β h1 := by
  obtain ⟨q1, q2, q3, q4, q5, q6, q7, q8, q9, q10, q11, q12, q13, q14⟩ := hQ
  refine ⟨w.k.trans q1, (w.r (fun z => by have := hF _ _ z; omega)).trans q2, (w.r (fun z => by have := hF _ _ z; omega)).trans q3, (w.r (fun z => by have := hF _ _ z; omega)).trans q4, w.k.trans q5, w.n.trans q6, w.k.trans q7, w.n.trans q8, w.k.trans q9, w.n.trans q10, fun i hi => ?_, fun i hi => ?_, fun i j h1 h2 h3 => hi i j h1 h2 (q13 _ _ (hs i h1) (hs j h2) h3), q14⟩
  · obtain ⟨e1, e2, e3, e4⟩ := q11 (σ i) (hs i hi)
    exact ⟨hr i hi, w.k.trans e2, w.n.trans e3, e4⟩
  · obtain ⟨e1, e2, e3, e4⟩ := q12 i hi
    exact ⟨(w.r (fun z => by have := hF _ _ z; omega)).trans e1, w.k.trans e2, w.n.trans e3, e4⟩
def sgm (n p i : Nat) : Nat := if i < p then i else if i = p then n else if i ≤ n then i - 1 else i
theorem sgm_lt {n p i : Nat} (hp : p ≤ n) (hn : n < 24) (hi : i < 24) : sgm n p i < 24 := by unfold sgm; split <;> (try split) <;> (try split) <;> omega
theorem sgm_inj {n p i j : Nat} (hp : p ≤ n) (h : sgm n p i = sgm n p j) : i = j := by
  unfold sgm at h
  by_cases i1 : i < p
  · rw [if_pos i1] at h
    by_cases j1 : j < p
    · rw [if_pos j1] at h; exact h
    · rw [if_neg j1] at h
      split at h
      · omega
      · split at h <;> omega
  · rw [if_neg i1] at h
    by_cases j1 : j < p
    · rw [if_pos j1] at h
      split at h
      · omega
      · split at h <;> omega
    · rw [if_neg j1] at h
      split at h
      · split at h
        · omega
        · split at h <;> omega
      · split at h
        · split at h
          · omega
          · split at h <;> omega
        · split at h
          · omega
          · split at h <;> omega
/-- what addBuyer writes -/
def BV (a : Nat) (x j : Nat) : Prop := (x = a ∧ j = 3) ∨ (a + 10 ≤ x ∧ x < a + 35)
theorem c22_l (hQ : SQ a ρ β h) (hV : SV a ρ β s h) (hO : SOk s) (hn : sM s < 24) {hr so pu : Nat} (h6 : hr ≤ 6) (v2 v3 : Value) (kk : ∀ h2, Fr (BV a) h h2 → SQ a ρ (fun i => β (sgm (sM s) (plN s hr) i)) h2 → SV a ρ (fun i => β (sgm (sM s) (plN s hr) i)) (sgB s hr so pu) h2 → K (some (.int (nI (plN s hr)))) h2) :
    ∀ (p : Nat) (h1 : Hp), p ≤ sM s → ipN (fun b => sB s b 0) hr p = plN s hr → Fr (fun x j => x = a + 10 ∨ x = β (sM s)) h h1 → (∀ i, i < 24 → gR h1 (a + 10) i = some (if p < i ∧ i ≤ sM s then β (i - 1) else β i)) → (∀ j, j < 3 → gI h1 (β (sM s)) j = nI (byC hr so pu j)) →
      V 22 43 [.ref a, .int (nI hr), v2, v3, .ref (β (sM s)), .int (nI p)] [] h1 K := by
  have hm24 := hO.2.1
  have hl := ipN_le (fun b => sB s b 0) hr (sM s)
  change plN s hr ≤ sM s at hl
  obtain ⟨-, -, -, x4, x5⟩ := hQ.by hn
  obtain ⟨p1, p2, p3, p4, p5⟩ := id hV
  -- the end
  have fin : ∀ (h1 : Hp), Fr (fun x j => x = a + 10 ∨ x = β (sM s)) h h1 → (∀ i, i < 24 → gR h1 (a + 10) i = some (if plN s hr < i ∧ i ≤ sM s then β (i - 1) else β i)) → (∀ j, j < 3 → gI h1 (β (sM s)) j = nI (byC hr so pu j)) → V 22 85 [.ref a, .int (nI hr), v2, v3, .ref (β (sM s)), .int (nI (plN s hr))] [] h1 K := by
    intro h1 hf hr1 hb1
    obtain ⟨s1, s2, s3, s4, s5, s6, s7, s8, s9, s10, -⟩ := id hQ
    have y1 : gK h1 a = 3 := hf.k.trans s1
    have y3 : gR h1 a 2 = some (a + 10) := (hf.r (fun z => by omega)).trans s3
    have y7 : gK h1 (a + 10) = 12 := hf.k.trans s7
    have y8 : gN h1 (a + 10) = 24 := hf.n.trans s8
    have yb : gK h1 (β (sM s)) = 8 := hf.k.trans (hQ.by hn).2.1
    have ym : gI h1 a 3 = nI (sM s) := (hf.i (fun z => by omega)).trans p2
    have c1 : (nI (plN s hr)).toNatClampNeg = plN s hr := nIc (by omega)
    have i1 : inb (nI (plN s hr)) 24 = True := nIb (by omega) (by omega)
    simp only [v22_0, v22_1, v22_4, v22_6, v22_9, v22_10, v22_11, v22_12, v22_15, v22_16, v22_19, v22_20, v22_22, v22_24, v22_25, v22_26, v22_27, v22_29, v22_30, v22_31, v22_32, v22_34, v22_35, v22_36, v22_37, v22_38, v22_41, v22_45, v22_48, v22_49, v22_52, v22_54, v22_55, v22_56, v22_57, v22_58, v22_59, v22_60, v22_63, v22_64, v22_67, v22_69, v22_70, v22_73, v22_75, v22_76, v22_77, v22_78, v22_79, v22_82, v22_85, v22_86, v22_89, v22_91, v22_93, v22_94, v22_95, v22_96, v22_99, v22_100, v22_101, v22_104, v22_106, y1, y3, y7, y8, yb, ym, vrf_s, c1, i1, gI_pJ, gI_pR, gJ_pI, gJ_pR, gR_pI, gR_pJ, gK_pI, gK_pJ, gK_pR, gN_pI, gN_pJ, gN_pR, gX_pI, gX_pJ, gX_pR, gS_pI, gS_pJ, gS_pR, gK_cpI, gN_cpI, gK_cpJ, gN_cpJ, gR_cpI, gR_cpJ, gJ_cpI, gI_cpJ, true_and, or_true, and_self, nI_1]
    have q : Fr (BV a) h (pI (pR h1 (a + 10) (plN s hr) (some (β (sM s)))) a 3 (nI (sM s + 1))) := ((hf.mo (fun x j z => by unfold BV; omega)).pR (Or.inr ⟨by omega, by omega⟩)).pI (Or.inl ⟨rfl, rfl⟩)
    have hQ2 : SQ a ρ (fun i => β (sgm (sM s) (plN s hr) i)) (pI (pR h1 (a + 10) (plN s hr) (some (β (sM s)))) a 3 (nI (sM s + 1))) := by
      refine hQ.permB q (fun x j z => by unfold BV at z; omega) (sgm (sM s) (plN s hr)) (fun i hi => sgm_lt hl hn hi) (fun i j _ _ h => sgm_inj hl h) (fun i hi => ?_)
      show gR (pR h1 (a + 10) (plN s hr) (some (β (sM s)))) (a + 10) i = _
      by_cases e : i = plN s hr
      · subst e
        rw [gR_at]
        unfold sgm
        rw [if_neg (by omega), if_pos rfl]
      · rw [gR_ne (fun z => e z.2), hr1 i hi]
        unfold sgm
        by_cases e1 : i < plN s hr
        · rw [if_neg (by omega), if_pos e1]
        · rw [if_neg e1, if_neg e]
          by_cases e2 : i ≤ sM s
          · rw [if_pos ⟨by omega, e2⟩, if_pos e2]
          · rw [if_neg (by omega), if_neg e2]
    refine kk _ q hQ2 ⟨?_, gI_at _ _ _ _, fun t ht j hj => ?_, fun c hc j hj => ?_, fun j hj => ?_⟩
    · exact (q.i (fun z => by unfold BV at z; omega)).trans p1
    · have ht' : t < sN s := ht
      have := hO.1
      obtain ⟨-, -, -, y4, y5⟩ := hQ.th (show t < 8 by omega)
      exact (q.i (fun z => by unfold BV at z; omega)).trans (p3 t ht j hj)
    · have hc' : c < sM s + 1 := hc
      show gI (pI (pR h1 _ _ _) a 3 _) (β (sgm (sM s) (plN s hr) c)) j = nI ((if c < plN s hr then sB s c else if c = plN s hr then byC hr so pu else sB s (c - 1)) j)
      have hlt := sgm_lt hl hn (show c < 24 by omega)
      obtain ⟨-, -, -, z4, z5⟩ := hQ.by hlt
      rw [gI_ne (by omega)]
      show gI h1 _ j = _
      have old : ∀ e, e < sM s → gI h1 (β e) j = nI (sB s e j) := fun e he => by
        obtain ⟨-, -, -, w4, w5⟩ := hQ.by (show e < 24 by omega)
        refine (hf.i (fun z => ?_)).trans (p4 e he j hj)
        rcases z with z | z
        · omega
        · have := hQ.2.2.2.2.2.2.2.2.2.2.2.2.2 e (sM s) (by omega) hn z
          omega
      unfold sgm
      by_cases e1 : c < plN s hr
      · rw [if_pos e1, if_pos e1]; exact old c (by omega)
      · rw [if_neg e1, if_neg e1]
        by_cases e2 : c = plN s hr
        · rw [if_pos e2, if_pos e2]; exact hb1 j hj
        · rw [if_neg e2, if_neg e2, if_pos (by omega)]; exact old (c - 1) (by omega)
    · exact (q.i (fun z => by unfold BV at z; omega)).trans (p5 j hj)
  intro p
  induction p with
  | zero =>
    intro h1 hp hpl hf hr1 hb1
    have e0 : (nI 0 ≤ 0) = True := n00
    have hpl0 : plN s hr = 0 := hpl.symm
    have f := fin h1 hf
    rw [hpl0] at f
    simp only [v22_43, v22_45, e0, reduceIte]
    exact f hr1 hb1
  | succ p ih =>
    intro h1 hp hpl hf hr1 hb1
    have e0 : (nI (p + 1) ≤ 0) = False := by rw [n_le0 (by omega)]; exact eq_false (by omega)
    obtain ⟨s1, s2, s3, s4, s5, s6, s7, s8, s9, s10, -⟩ := id hQ
    have y1 : gK h1 a = 3 := hf.k.trans s1
    have y3 : gR h1 a 2 = some (a + 10) := (hf.r (fun z => by omega)).trans s3
    have y7 : gK h1 (a + 10) = 12 := hf.k.trans s7
    have y8 : gN h1 (a + 10) = 24 := hf.n.trans s8
    obtain ⟨-, u2, u3, u4, u5⟩ := hQ.by (show p < 24 by omega)
    have k2 : gK h1 (β p) = 8 := hf.k.trans u2
    have n2 : gN h1 (β p) = 3 := hf.n.trans u3
    have rp : gR h1 (a + 10) p = some (β p) := by rw [hr1 p (by omega), if_neg (by omega)]
    have e1 : gI h1 (β p) 0 = nI (sB s p 0) := (hf.i (fun z => by
      rcases z with z | z
      · omega
      · have := hQ.2.2.2.2.2.2.2.2.2.2.2.2.2 p (sM s) (by omega) hn z
        omega)).trans (p4 p (by omega) 0 (by omega))
    have g0 := (hO.2.2.2.1 p (by omega)).1
    have c1 : (nI p).toNatClampNeg = p := nIc (by omega)
    have i1 : inb (nI p) 24 = True := nIb (by omega) (by omega)
    have c2 : (nI (p + 1)).toNatClampNeg = p + 1 := nIc (by omega)
    have i2 : inb (nI (p + 1)) 24 = True := nIb (by omega) (by omega)
    have sb : nI (p + 1) - 1 = nI p := nI_pred _
    have le : (nI (sB s p 0) ≤ nI hr) = (sB s p 0 ≤ hr) := nleN (by omega) (by omega)
    have ei : ipN (fun b => sB s b 0) hr (p + 1) = if hr < sB s p 0 then ipN (fun b => sB s b 0) hr p else p + 1 := rfl
    by_cases g : sB s p 0 ≤ hr
    · rw [if_neg (by omega)] at ei
      have f := fin h1 hf
      rw [← hpl, ei] at f
      simp only [v22_43, v22_45, v22_48, v22_49, v22_52, v22_54, v22_55, v22_56, v22_57, v22_58, v22_59, v22_60, e0, y1, y3, y7, y8, vrf_s, sb, c1, i1, rp, k2, n2, ib7_0, ib7_1, ib7_2, ib7_3, ib7_4, ib7_5, ib7_6, ib3_0, ib3_1, ib3_2, ib4_0, ib4_1, ib4_2, ib4_3, tc0, tc1, tc2, tc3, tc4, tc5, tc6, e1, le, g, reduceIte, true_and, true_or, or_true, and_self]
      exact f hr1 hb1
    · rw [if_pos (by omega)] at ei
      simp only [v22_43, v22_45, v22_48, v22_49, v22_52, v22_54, v22_55, v22_56, v22_57, v22_58, v22_59, v22_60, v22_63, v22_64, v22_67, v22_69, v22_70, v22_73, v22_75, v22_76, v22_77, v22_78, v22_79, e0, y1, y3, y7, y8, vrf_s, sb, c1, i1, c2, i2, rp, k2, n2, ib7_0, ib7_1, ib7_2, ib7_3, ib7_4, ib7_5, ib7_6, ib3_0, ib3_1, ib3_2, ib4_0, ib4_1, ib4_2, ib4_3, tc0, tc1, tc2, tc3, tc4, tc5, tc6, e1, le, g, reduceIte, true_and, true_or, or_true, and_self, nDc]
      rw [v22_82]
      refine ih _ (by omega) (ei.symm.trans hpl) (hf.pR (Or.inl rfl)) (fun i hi => ?_) hb1
      by_cases e : i = p + 1
      · subst e
        rw [gR_at, if_pos ⟨by omega, by omega⟩]
        rfl
      · rw [gR_ne (fun z => e z.2), hr1 i hi]
        by_cases e2 : p + 1 < i ∧ i ≤ sM s
        · rw [if_pos e2, if_pos ⟨by omega, e2.2⟩]
        · rw [if_neg e2, if_neg (fun z => e2 ⟨by omega, z.2⟩)]
theorem byC_3 {hr so pu : Nat} (g : Nat → Int32) (g0 : g 0 = nI hr) (g1 : g 1 = nI so) (g2 : g 2 = nI pu) : ∀ j, j < 3 → g j = nI (byC hr so pu j) := fun j hj => by
  have : j = 0 ∨ j = 1 ∨ j = 2 := by omega
  rcases this with rfl | rfl | rfl
  · exact g0
  · exact g1
  · exact g2
/-- addBuyer -/
theorem c22 (hQ : SQ a ρ β h) (hV : SV a ρ β s h) (hO : SOk s) (hn : sM s < 24) {hr so pu : Nat} (h6 : hr ≤ 6) (kk : ∀ h2, Fr (BV a) h h2 → SQ a ρ (fun i => β (sgm (sM s) (plN s hr) i)) h2 → SV a ρ (fun i => β (sgm (sM s) (plN s hr) i)) (sgB s hr so pu) h2 → K (some (.int (nI (plN s hr)))) h2) : AM 22 [.ref a, .int (nI hr), .int (nI so), .int (nI pu)] h K := by
  obtain ⟨s1, s2, s3, s4, s5, s6, s7, s8, s9, s10, -⟩ := id hQ
  obtain ⟨t1, t2, t3, t4, t5⟩ := hQ.by hn
  have c1 : (nI (sM s)).toNatClampNeg = sM s := nIc (by omega)
  have i1 : inb (nI (sM s)) 24 = True := nIb hn (by omega)
  have e8 : (nI (sM s) < 24) = True := eq_true (nI_lt (b := 24) hn (by decide))
  have p2 := hV.2.1
  have ne : ∀ v0 v1 v2 : Int32, gI (pI (pI (pI h (β (sM s)) 0 v0) (β (sM s)) 1 v1) (β (sM s)) 2 v2) a 3 = nI (sM s) := fun v0 v1 v2 => by
    rw [gI_ne (by omega), gI_ne (by omega), gI_ne (by omega)]
    exact p2
  simp only [e22, v22_0, v22_1, v22_4, v22_6, v22_11, v22_12, v22_15, v22_16, v22_19, v22_20, v22_22, v22_24, v22_25, v22_26, v22_27, v22_29, v22_30, v22_31, v22_32, v22_34, v22_35, v22_36, v22_37, v22_38, v22_41, s1, s3, s7, s8, p2, e8, reduceIte, vrf_s, c1, i1, t1, t2, t3, gI_pJ, gI_pR, gJ_pI, gJ_pR, gR_pI, gR_pJ, gK_pI, gK_pJ, gK_pR, gN_pI, gN_pJ, gN_pR, gX_pI, gX_pJ, gX_pR, gS_pI, gS_pJ, gS_pR, gK_cpI, gN_cpI, gK_cpJ, gN_cpJ, gR_cpI, gR_cpJ, gJ_cpI, gI_cpJ, ib7_0, ib7_1, ib7_2, ib7_3, ib7_4, ib7_5, ib7_6, ib3_0, ib3_1, ib3_2, ib4_0, ib4_1, ib4_2, ib4_3, tc0, tc1, tc2, tc3, tc4, tc5, tc6, ne, true_and, true_or, or_true, and_self]
  refine c22_l hQ hV hO hn h6 _ _ kk (sM s) _ (Nat.le_refl _) rfl (((Fr.rf.pI (Or.inr rfl)).pI (Or.inr rfl)).pI (Or.inr rfl)) (fun i hi => ?_) (byC_3 (fun j => gI (pI (pI (pI h (β (sM s)) 0 (nI hr)) (β (sM s)) 1 (nI so)) (β (sM s)) 2 (nI pu)) (β (sM s)) j) ?_ ?_ ?_)
  · rw [if_neg (by omega)]
    exact (hQ.by hi).1
  · rw [gI_ne (by omega), gI_ne (by omega), gI_at]
  · rw [gI_ne (by omega), gI_at]
  · rw [gI_at]
/-- the reference's addBuyer -/
def BX (m : Nat) (x j : Nat) : Prop := (x = m ∧ j = 11) ∨ (m + 27 ≤ x ∧ x < m + 51)
theorem c151_i (hM : MSh m h) {p : Nat} (hp : p < 23) (v1 v2 v3 : Value) (kk : ∀ h2, Fr (fun x _ => x = m + (27 + (p + 1))) h h2 → (∀ j, j < 3 → gI h2 (m + (27 + (p + 1))) j = gI h (m + (27 + p)) j) → V 151 63 [.ref m, v1, v2, v3, .int (nI (p + 1)), .int (nI 3)] [] h2 K) :
    ∀ (j k : Nat) (h1 : Hp), k + j = 3 → Fr (fun x _ => x = m + (27 + (p + 1))) h h1 → (∀ j, j < k → gI h1 (m + (27 + (p + 1))) j = gI h (m + (27 + p)) j) → V 151 29 [.ref m, v1, v2, v3, .int (nI (p + 1)), .int (nI k)] [] h1 K := by
  intro j
  induction j with
  | zero =>
    intro k h1 hk hf hz
    have e : k = 3 := by omega
    subst e
    have e8 : ((3 : Int32) ≤ nI 3) = True := eq_true (by decide)
    simp only [v151_29, v151_31, v151_32, e8, reduceIte]
    exact kk h1 hf hz
  | succ j ih =>
    intro k h1 hk hf hz
    have e8 : ((3 : Int32) ≤ nI k) = False := eq_false (nI_ge (b := 3) (by omega) (by decide))
    have hM1 : MSh m h1 := hM.fr hf (fun a j z => ⟨by omega, fun v => by omega⟩)
    obtain ⟨w1, w2, w3⟩ := hM1.by (show p < 24 by omega)
    obtain ⟨x1, x2, x3⟩ := hM1.by (show p + 1 < 24 by omega)
    have c1 : (nI p).toNatClampNeg = p := nIc (by omega)
    have i1 : inb (nI p) 24 = True := nIb (by omega) (by omega)
    have c2 : (nI (p + 1)).toNatClampNeg = p + 1 := nIc (by omega)
    have i2 : inb (nI (p + 1)) 24 = True := nIb (by omega) (by omega)
    have c3 : (nI k).toNatClampNeg = k := nIc (by omega)
    have i3 : inb (nI k) 3 = True := nIb (by omega) (by omega)
    have sb : nI (p + 1) - 1 = nI p := nI_pred _
    have old : gI h1 (m + (27 + p)) k = gI h (m + (27 + p)) k := hf.i (fun z => by omega)
    simp only [v151_29, v151_31, v151_32, v151_35, v151_36, v151_39, v151_41, v151_42, v151_44, v151_45, v151_48, v151_50, v151_51, v151_52, v151_53, v151_55, v151_56, v151_57, e8, reduceIte, hM1.k0, hM1.f12, hM1.k26, hM1.n26, vrf_s, w1, w2, w3, x1, x2, x3, c1, i1, c2, i2, c3, i3, sb, old, true_and, true_or, or_true, and_self, nI_1]
    rw [v151_60]
    refine ih (k + 1) _ (by omega) (hf.pI rfl) (fun y hy => ?_)
    by_cases e : y = k
    · subst e; exact gI_at _ _ _ _
    · rw [gI_ne (fun z => e z.2)]
      exact hz y (by omega)
theorem c151_l (hM : MSh m h) (hP : MP m s h) (hO : SOk s) (hn : sM s < 24) {hr so pu : Nat} (h6 : hr ≤ 6) (kk : ∀ h2, Fr (BX m) h h2 → MP m (sgB s hr so pu) h2 → K (some (.int (nI (plN s hr)))) h2) :
    ∀ (p : Nat) (h1 : Hp) (v5 : Value), p ≤ sM s → ipN (fun b => sB s b 0) hr p = plN s hr → Fr (fun x j => m + 27 ≤ x ∧ x < m + 51) h h1 → (∀ i, i ≤ sM s → i ≠ p → ∀ j, j < 3 → gI h1 (m + (27 + i)) j = nI (if p < i then sB s (i - 1) j else sB s i j)) →
      V 151 6 [.ref m, .int (nI hr), .int (nI so), .int (nI pu), .int (nI p), v5] [] h1 K := by
  have hm24 := hO.2.1
  have hn8 := hO.1
  have hl := ipN_le (fun b => sB s b 0) hr (sM s)
  change plN s hr ≤ sM s at hl
  obtain ⟨p1, p2, p3, p4, p5⟩ := id hP
  have fin : ∀ (h1 : Hp) (v5 : Value), Fr (fun x j => m + 27 ≤ x ∧ x < m + 51) h h1 → (∀ i, i ≤ sM s → i ≠ plN s hr → ∀ j, j < 3 → gI h1 (m + (27 + i)) j = nI (if plN s hr < i then sB s (i - 1) j else sB s i j)) → V 151 69 [.ref m, .int (nI hr), .int (nI so), .int (nI pu), .int (nI (plN s hr)), v5] [] h1 K := by
    intro h1 v5 hf hz
    have hM1 : MSh m h1 := hM.fr hf (fun a j z => ⟨by omega, fun v => by omega⟩)
    obtain ⟨x1, x2, x3⟩ := hM1.by (show plN s hr < 24 by omega)
    have c2 : (nI (plN s hr)).toNatClampNeg = plN s hr := nIc (by omega)
    have i2 : inb (nI (plN s hr)) 24 = True := nIb (by omega) (by omega)
    have ym : gI h1 m 11 = nI (sM s) := (hf.i (fun z => by omega)).trans p2
    have ne : ∀ v0 v1 v2 : Int32, gI (pI (pI (pI h1 (m + (27 + plN s hr)) 0 v0) (m + (27 + plN s hr)) 1 v1) (m + (27 + plN s hr)) 2 v2) m 11 = nI (sM s) := fun v0 v1 v2 => by
      rw [gI_ne (by omega), gI_ne (by omega), gI_ne (by omega)]
      exact ym
    simp only [v151_69, v151_70, v151_73, v151_75, v151_76, v151_77, v151_78, v151_79, v151_80, v151_83, v151_85, v151_86, v151_87, v151_88, v151_89, v151_90, v151_93, v151_95, v151_96, v151_97, v151_98, v151_99, v151_100, v151_101, v151_104, v151_105, v151_106, v151_109, v151_111, gI_pJ, gI_pR, gJ_pI, gJ_pR, gR_pI, gR_pJ, gK_pI, gK_pJ, gK_pR, gN_pI, gN_pJ, gN_pR, gX_pI, gX_pJ, gX_pR, gS_pI, gS_pJ, gS_pR, gK_cpI, gN_cpI, gK_cpJ, gN_cpJ, gR_cpI, gR_cpJ, gJ_cpI, gI_cpJ, hM1.k0, hM1.f12, hM1.k26, hM1.n26, vrf_s, x1, x2, x3, c2, i2, ib7_0, ib7_1, ib7_2, ib7_3, ib7_4, ib7_5, ib7_6, ib3_0, ib3_1, ib3_2, ib4_0, ib4_1, ib4_2, ib4_3, tc0, tc1, tc2, tc3, tc4, tc5, tc6, ne, true_and, true_or, or_true, and_self, nI_1]
    have q : Fr (BX m) h (pI (pI (pI (pI h1 (m + (27 + plN s hr)) 0 (nI hr)) (m + (27 + plN s hr)) 1 (nI so)) (m + (27 + plN s hr)) 2 (nI pu)) m 11 (nI (sM s + 1))) := ((((hf.mo (fun x j z => Or.inr z)).pI (Or.inr ⟨by omega, by omega⟩)).pI (Or.inr ⟨by omega, by omega⟩)).pI (Or.inr ⟨by omega, by omega⟩)).pI (Or.inl ⟨rfl, rfl⟩)
    refine kk _ q ⟨?_, gI_at _ _ _ _, fun t ht j hj => ?_, fun c hc j hj => ?_, fun j hj => ?_⟩
    · exact (q.i (fun z => by unfold BX at z; omega)).trans p1
    · have ht' : t < sN s := ht
      exact (q.i (fun z => by unfold BX at z; omega)).trans (p3 t ht j hj)
    · have hc' : c < sM s + 1 := hc
      show _ = nI ((if c < plN s hr then sB s c else if c = plN s hr then byC hr so pu else sB s (c - 1)) j)
      by_cases e : c = plN s hr
      · rw [if_neg (by omega), if_pos e, e]
        refine byC_3 (fun j => gI (pI (pI (pI (pI h1 (m + (27 + plN s hr)) 0 (nI hr)) (m + (27 + plN s hr)) 1 (nI so)) (m + (27 + plN s hr)) 2 (nI pu)) m 11 (nI (sM s + 1))) (m + (27 + plN s hr)) j) ?_ ?_ ?_ j hj
        · rw [gI_ne (by omega), gI_ne (by omega), gI_ne (by omega), gI_at]
        · rw [gI_ne (by omega), gI_ne (by omega), gI_at]
        · rw [gI_ne (by omega), gI_at]
      · rw [gI_ne (by omega), gI_ne (by omega), gI_ne (by omega), gI_ne (by omega), hz c (by omega) e j hj]
        by_cases e1 : c < plN s hr
        · rw [if_neg (by omega), if_pos e1]
        · rw [if_pos (by omega), if_neg e1, if_neg e]
    · exact (q.i (fun z => by unfold BX at z; omega)).trans (p5 j hj)
  intro p
  induction p with
  | zero =>
    intro h1 v5 hp hpl hf hz
    have e0 : (nI 0 ≤ 0) = True := n00
    have hpl0 : plN s hr = 0 := hpl.symm
    have f := fin h1 v5 hf
    rw [hpl0] at f
    simp only [v151_6, v151_8, e0, reduceIte]
    exact f hz
  | succ p ih =>
    intro h1 v5 hp hpl hf hz
    have e0 : (nI (p + 1) ≤ 0) = False := by rw [n_le0 (by omega)]; exact eq_false (by omega)
    have hM1 : MSh m h1 := hM.fr hf (fun a j z => ⟨by omega, fun v => by omega⟩)
    obtain ⟨w1, w2, w3⟩ := hM1.by (show p < 24 by omega)
    have c1 : (nI p).toNatClampNeg = p := nIc (by omega)
    have i1 : inb (nI p) 24 = True := nIb (by omega) (by omega)
    have sb : nI (p + 1) - 1 = nI p := nI_pred _
    have e1 : gI h1 (m + (27 + p)) 0 = nI (sB s p 0) := by rw [hz p (by omega) (by omega) 0 (by omega), if_neg (by omega)]
    have g0 := (hO.2.2.2.1 p (by omega)).1
    have le : (nI (sB s p 0) ≤ nI hr) = (sB s p 0 ≤ hr) := nleN (by omega) (by omega)
    have ei : ipN (fun b => sB s b 0) hr (p + 1) = if hr < sB s p 0 then ipN (fun b => sB s b 0) hr p else p + 1 := rfl
    by_cases g : sB s p 0 ≤ hr
    · rw [if_neg (by omega)] at ei
      have f := fin h1 v5 hf
      rw [← hpl, ei] at f
      simp only [v151_6, v151_8, v151_11, v151_12, v151_15, v151_17, v151_18, v151_19, v151_20, v151_21, v151_22, v151_23, e0, hM1.k0, hM1.f12, hM1.k26, hM1.n26, vrf_s, w1, w2, w3, c1, i1, sb, ib7_0, ib7_1, ib7_2, ib7_3, ib7_4, ib7_5, ib7_6, ib3_0, ib3_1, ib3_2, ib4_0, ib4_1, ib4_2, ib4_3, tc0, tc1, tc2, tc3, tc4, tc5, tc6, e1, le, g, reduceIte, true_and, true_or, or_true, and_self]
      exact f hz
    · rw [if_pos (by omega)] at ei
      simp only [v151_6, v151_8, v151_11, v151_12, v151_15, v151_17, v151_18, v151_19, v151_20, v151_21, v151_22, v151_23, v151_26, v151_27, e0, hM1.k0, hM1.f12, hM1.k26, hM1.n26, vrf_s, w1, w2, w3, c1, i1, sb, ib7_0, ib7_1, ib7_2, ib7_3, ib7_4, ib7_5, ib7_6, ib3_0, ib3_1, ib3_2, ib4_0, ib4_1, ib4_2, ib4_3, tc0, tc1, tc2, tc3, tc4, tc5, tc6, e1, le, g, reduceIte, true_and, true_or, or_true, and_self]
      refine c151_i hM1 (by omega) _ _ _ (fun h2 q2 hz2 => ?_) 3 0 h1 (Nat.zero_add _) Fr.rf (fun j hj => absurd hj (Nat.not_lt_zero j))
      simp only [v151_63, nDc]
      rw [v151_66]
      refine ih h2 _ (by omega) (ei.symm.trans hpl) (hf.tr (q2.mo (fun x j z => ⟨by omega, by omega⟩))) (fun i hi hne j hj => ?_)
      by_cases e : i = p + 1
      · subst e
        rw [hz2 j hj, if_pos (by omega), hz p (by omega) (by omega) j hj, if_neg (by omega)]
        rfl
      · rw [q2.i (by omega), hz i hi (by omega) j hj]
        by_cases e2 : p + 1 < i
        · rw [if_pos e2, if_pos (by omega)]
        · rw [if_neg e2, if_neg (by omega)]
theorem c151 (hM : MSh m h) (hP : MP m s h) (hO : SOk s) (hn : sM s < 24) {hr so pu : Nat} (h6 : hr ≤ 6) (kk : ∀ h2, Fr (BX m) h h2 → MP m (sgB s hr so pu) h2 → K (some (.int (nI (plN s hr)))) h2) : AM 151 [.ref m, .int (nI hr), .int (nI so), .int (nI pu)] h K := by
  simp only [e151, v151_0, v151_1, v151_4, hM.k0, hP.2.1, true_and]
  refine c151_l hM hP hO hn h6 kk (sM s) h _ (Nat.le_refl _) rfl Fr.rf (fun i hi hne j hj => ?_)
  rw [if_neg (by omega)]
  exact hP.b (by omega) hj
end
