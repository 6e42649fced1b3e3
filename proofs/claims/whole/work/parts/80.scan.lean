/-! THE SCANNERS, on both sides -/
def rnF (P : Nat → Bool) (f : Nat → Nat) : Nat → Nat → Nat
  | 0, e => e
  | d + 1, e => if P (f e) = true then rnF P f d (e + 1) else e
def rnP (P : Nat → Bool) (p : TPE) (e : Nat) : Nat := rnF P p.2 (p.1 - e) e
theorem rnF_le (P : Nat → Bool) (f : Nat → Nat) : ∀ d e, e ≤ rnF P f d e ∧ rnF P f d e ≤ e + d
  | 0, e => ⟨Nat.le_refl _, Nat.le_refl _⟩
  | d + 1, e => by
    have h := rnF_le P f d (e + 1)
    show e ≤ (if P (f e) = true then rnF P f d (e + 1) else e) ∧ (if P (f e) = true then rnF P f d (e + 1) else e) ≤ e + (d + 1)
    split <;> omega
theorem rnF_P (P : Nat → Bool) (f : Nat → Nat) : ∀ d e j, e ≤ j → j < rnF P f d e → P (f j) = true
  | 0, e, j, h1, h2 => absurd h2 (Nat.not_lt.mpr h1)
  | d + 1, e, j, h1, h2 => by
    have eq : rnF P f (d + 1) e = if P (f e) = true then rnF P f d (e + 1) else e := rfl
    rw [eq] at h2
    split at h2
    · rename_i g
      by_cases e2 : j = e
      · subst e2; exact g
      · exact rnF_P P f d (e + 1) j (by omega) h2
    · omega
def isB (c : Nat) : Bool := decide (c = 32)
def isL (c : Nat) : Bool := decide (97 ≤ c) && decide (c ≤ 122)
def isD (c : Nat) : Bool := decide (48 ≤ c) && decide (c ≤ 57)
def dv (f : Nat → Nat) (s n : Nat) : Nat := if n = 0 then 0 else if n = 1 then f s - 48 else (f s - 48) * 10 + (f (s + 1) - 48)
def tkS (p : TPE) (s : Nat) : TKN := if p.1 ≤ s then (0, s, s, 0) else if isL (p.2 s) = true then (1, s, rnP isL p s, 0) else if isD (p.2 s) = true then (2, s, rnP isD p s, dv p.2 s (rnP isD p s - s)) else (if p.2 s = 59 then 3 else 4, s, s + 1, 0)
def tok (p : TPE) (e : Nat) : TKN := tkS p (rnP isB p e)
def nxT (p : TPE) (T : TKN) : TKN := tok p (eT T)
theorem rnP_le (P : Nat → Bool) {p : TPE} {e : Nat} (he : e ≤ p.1) : e ≤ rnP P p e ∧ rnP P p e ≤ p.1 := by
  have := rnF_le P p.2 (p.1 - e) e
  unfold rnP
  omega
theorem rnP_lt {P : Nat → Bool} {p : TPE} {s : Nat} (hs : s < p.1) (g : P (p.2 s) = true) : s < rnP P p s := by
  unfold rnP
  obtain ⟨d, hd⟩ : ∃ d, p.1 - s = d + 1 := ⟨p.1 - s - 1, by omega⟩
  rw [hd]
  show s < if P (p.2 s) = true then rnF P p.2 d (s + 1) else s
  rw [if_pos g]
  have := (rnF_le P p.2 d (s + 1)).1
  omega
theorem isD_le {c : Nat} (h : isD c = true) : 48 ≤ c ∧ c ≤ 57 := by
  unfold isD at h
  rw [Bool.and_eq_true, decide_eq_true_eq, decide_eq_true_eq] at h
  exact h
theorem dv_le {f : Nat → Nat} {s n : Nat} (h : ∀ j, s ≤ j → j < s + n → isD (f j) = true) : dv f s n ≤ 99 := by
  unfold dv
  split
  · omega
  · have h0 := isD_le (h s (Nat.le_refl _) (by omega))
    split
    · omega
    · have h1 := isD_le (h (s + 1) (by omega) (by omega))
      omega
theorem tkS_ok {p : TPE} {s : Nat} (hs : s ≤ p.1) : TOk p (tkS p s) ∧ sT0 (tkS p s) = s ∧ (kT (tkS p s) = 0 ↔ p.1 ≤ s) := by
  unfold tkS
  by_cases g0 : p.1 ≤ s
  · rw [if_pos g0]
    exact ⟨⟨(by decide : (0 : Nat) ≤ 4), Nat.le_refl _, hs, (by decide : (0 : Nat) ≤ 99), fun z => absurd rfl z⟩, rfl, ⟨fun _ => g0, fun _ => rfl⟩⟩
  · rw [if_neg g0]
    by_cases g1 : isL (p.2 s) = true
    · rw [if_pos g1]
      have h1 := rnP_le isL (p := p) hs
      have h2 := rnP_lt (p := p) (s := s) (by omega) g1
      exact ⟨⟨(by decide : (1 : Nat) ≤ 4), h1.1, h1.2, (by decide : (0 : Nat) ≤ 99), fun _ => h2⟩, rfl, ⟨fun z => absurd z (by decide : (1 : Nat) ≠ 0), fun z => absurd z g0⟩⟩
    · rw [if_neg g1]
      by_cases g2 : isD (p.2 s) = true
      · rw [if_pos g2]
        have h1 := rnP_le isD (p := p) hs
        have h2 := rnP_lt (p := p) (s := s) (by omega) g2
        exact ⟨⟨(by decide : (2 : Nat) ≤ 4), h1.1, h1.2, dv_le (fun j hj hj2 => rnF_P isD p.2 (p.1 - s) s j hj (by show j < rnP isD p s; omega)), fun _ => h2⟩, rfl, ⟨fun z => absurd z (by decide : (2 : Nat) ≠ 0), fun z => absurd z g0⟩⟩
      · rw [if_neg g2]
        refine ⟨⟨?_, Nat.le_succ _, by show s + 1 ≤ p.1; omega, (by decide : (0 : Nat) ≤ 99), fun _ => Nat.lt_succ_self _⟩, rfl, ⟨fun z => ?_, fun z => absurd z g0⟩⟩
        · show (if p.2 s = 59 then 3 else 4) ≤ 4
          split <;> omega
        · have z' : (if p.2 s = 59 then 3 else 4) = 0 := z
          split at z' <;> omega
theorem tok_ok {p : TPE} {e : Nat} (he : e ≤ p.1) : TOk p (tok p e) ∧ e ≤ sT0 (tok p e) ∧ (kT (tok p e) = 0 ↔ p.1 ≤ sT0 (tok p e)) := by
  have h1 := rnP_le isB (p := p) he
  obtain ⟨h2, h3, h4⟩ := tkS_ok (p := p) (s := rnP isB p e) h1.2
  unfold tok
  rw [h3]
  exact ⟨h2, h1.1, h4⟩
theorem inN {l m c : Nat} (hc : c ≤ 1000000) (hl : l ≤ 1000000) (hm : m ≤ 1000000) : inI (nI c) (nI l) (nI m) = (decide (l ≤ c) && decide (c ≤ m)) := by
  have h1 : (nI l ≤ nI c) ↔ l ≤ c := nI_leI (by omega) (by omega)
  have h2 : (nI c ≤ nI m) ↔ c ≤ m := nI_leI (by omega) (by omega)
  unfold inI
  rw [decide_eq_decide.mpr h1, decide_eq_decide.mpr h2]
theorem in_L {c : Nat} (hc : c ≤ 255) : inI (nI c) 97 122 = isL c := inN (l := 97) (m := 122) (by omega) (by decide) (by decide)
theorem in_D {c : Nat} (hc : c ≤ 255) : inI (nI c) 48 57 = isD c := inN (l := 48) (m := 57) (by omega) (by decide) (by decide)
theorem dv_s {f : Nat → Nat} {s i : Nat} (hi : i < 2) (h0 : 48 ≤ f (s + i)) : dv f s i * 10 + f (s + i) - 48 = dv f s (i + 1) := by
  have : i = 0 ∨ i = 1 := by omega
  rcases this with rfl | rfl
  · show 0 * 10 + f (s + 0) - 48 = f s - 48
    rw [Nat.add_zero]
    omega
  · show (f s - 48) * 10 + f (s + 1) - 48 = (f s - 48) * 10 + (f (s + 1) - 48)
    omega
theorem dv_2 {f : Nat → Nat} {s i : Nat} (hi : 2 ≤ i) : dv f s (i + 1) = dv f s i := by
  unfold dv
  rw [if_neg (by omega), if_neg (by omega), if_neg (by omega), if_neg (by omega)]
def NW (b : Nat) (x j : Nat) : Prop := x = b + 117 ∧ 2 ≤ j ∧ j ≤ 5
section
variable {b m s : Nat} {p : TPE} {h h1 : Hp} {K : Option Value → Hp → Prop}
theorem TA.nw (hT : TA b p h) (hp : p.1 ≤ 250) (w : Fr (NW b) h h1) : TA b p h1 := hT.fr hp w (fun u j z => by unfold NW at z; omega)
/-- blanks -/
theorem c40_b (hT : TA b p h) (hp : p.1 ≤ 250) (hb : ∀ j, j < p.1 → p.2 j ≤ 255) {X : Nat} (kk : ∀ h2, Fr (NW b) h h2 → gI h2 (b + 117) 3 = nI X → V 40 46 [.ref (b + 117)] [] h2 K) :
    ∀ (d e : Nat) (h1 : Hp), e + d = p.1 → rnF isB p.2 d e = X → Fr (NW b) h h1 → gI h1 (b + 117) 3 = nI e → V 40 8 [.ref (b + 117)] [] h1 K := by
  intro d
  induction d with
  | zero =>
    intro e h1 he hX hf h3
    obtain ⟨t1, t2, t3, t4, t5, t6, t7, t8, t9⟩ := hT.nw hp hf
    have ee : e = X := hX
    have e8 : (nI p.1 ≤ nI e) = True := eq_true (nI_le (by omega) (by omega))
    simp only [v40_8, v40_9, v40_12, v40_13, v40_16, t1, t8, h3, e8, true_and, reduceIte]
    exact kk h1 hf (by rw [h3, ee])
  | succ d ih =>
    intro e h1 he hX hf h3
    obtain ⟨t1, t2, t3, t4, t5, t6, t7, t8, t9⟩ := hT.nw hp hf
    have e8 : (nI p.1 ≤ nI e) = False := eq_false (nI_ge (by omega) (by omega))
    have c1 : (nI e).toNatClampNeg = e := nIc (by omega)
    have i1 : inb (nI e) 250 = True := nIb (by omega) (by omega)
    have ev := t9 e (by omega)
    have hb1 := hb e (by omega)
    have e32 : (nI (p.2 e) = 32) = (p.2 e = 32) := neqN (c := 32) (by omega) (by decide)
    have r : rnF isB p.2 (d + 1) e = if isB (p.2 e) = true then rnF isB p.2 d (e + 1) else e := rfl
    rw [r] at hX
    by_cases g : p.2 e = 32
    · have gb : isB (p.2 e) = true := decide_eq_true g
      rw [if_pos gb] at hX
      have g' : (p.2 e = 32) = True := eq_true g
      simp only [v40_8, v40_9, v40_12, v40_13, v40_16, v40_19, v40_20, v40_23, v40_24, v40_27, v40_28, v40_30, v40_33, v40_34, v40_35, v40_38, v40_39, v40_40, t1, t2, t4, t5, t8, h3, e8, c1, i1, ev, e32, g', vrf_s, not_true_eq_false, true_and, true_or, or_true, and_self, reduceIte, nI_1]
      rw [v40_43]
      exact ih (e + 1) _ (by omega) hX (hf.pI ⟨rfl, by omega, by omega⟩) (gI_at _ _ _ _)
    · have gb : ¬ isB (p.2 e) = true := fun z => g (of_decide_eq_true z)
      rw [if_neg gb] at hX
      simp only [v40_8, v40_9, v40_12, v40_13, v40_16, v40_19, v40_20, v40_23, v40_24, v40_27, v40_28, v40_30, t1, t2, t4, t5, t8, h3, e8, c1, i1, ev, e32, g, vrf_s, not_false_eq_true, true_and, true_or, or_true, and_self, reduceIte]
      exact kk h1 hf (by rw [h3, hX])
/-- letters -/
theorem c40_l (hT : TA b p h) (hp : p.1 ≤ 250) (hb : ∀ j, j < p.1 → p.2 j ≤ 255) {X : Nat} (kk : ∀ h2, Fr (fun x j => x = b + 117 ∧ j = 4) h h2 → gI h2 (b + 117) 4 = nI X → K none h2) :
    ∀ (d e : Nat) (h1 : Hp), e + d = p.1 → rnF isL p.2 d e = X → Fr (fun x j => x = b + 117 ∧ j = 4) h h1 → gI h1 (b + 117) 4 = nI e → V 40 102 [.ref (b + 117)] [] h1 K := by
  intro d
  induction d with
  | zero =>
    intro e h1 he hX hf h3
    obtain ⟨t1, t2, t3, t4, t5, t6, t7, t8, t9⟩ := hT.nw hp (hf.mo (fun x j z => by unfold NW; omega))
    have ee : e = X := hX
    have e8 : (nI p.1 ≤ nI e) = True := eq_true (nI_le (by omega) (by omega))
    simp only [v40_102, v40_103, v40_106, v40_107, v40_110, v40_289, t1, t8, h3, e8, true_and, reduceIte]
    exact kk h1 hf (by rw [h3, ee])
  | succ d ih =>
    intro e h1 he hX hf h3
    obtain ⟨t1, t2, t3, t4, t5, t6, t7, t8, t9⟩ := hT.nw hp (hf.mo (fun x j z => by unfold NW; omega))
    have e8 : (nI p.1 ≤ nI e) = False := eq_false (nI_ge (by omega) (by omega))
    have c1 : (nI e).toNatClampNeg = e := nIc (by omega)
    have i1 : inb (nI e) 250 = True := nIb (by omega) (by omega)
    have ev := t9 e (by omega)
    have il := in_L (hb e (by omega))
    have r : rnF isL p.2 (d + 1) e = if isL (p.2 e) = true then rnF isL p.2 d (e + 1) else e := rfl
    rw [r] at hX
    cases g : isL (p.2 e) with
    | true =>
      rw [g, if_pos rfl] at hX
      simp only [v40_102, v40_103, v40_106, v40_107, v40_110, v40_113, v40_114, v40_117, v40_118, v40_121, v40_122, v40_124, v40_126, v40_129, v40_132, v40_133, v40_134, v40_137, v40_138, v40_139, t1, t2, t4, t5, t8, h3, e8, c1, i1, ev, c123, il, g, pu_s, z2_t, i10, vrf_s, true_and, true_or, or_true, and_self, reduceIte, nI_1]
      rw [v40_142]
      exact ih (e + 1) _ (by omega) hX (hf.pI ⟨rfl, rfl⟩) (gI_at _ _ _ _)
    | false =>
      rw [g, if_neg Bool.false_ne_true] at hX
      simp only [v40_102, v40_103, v40_106, v40_107, v40_110, v40_113, v40_114, v40_117, v40_118, v40_121, v40_122, v40_124, v40_126, v40_129, v40_289, t1, t2, t4, t5, t8, h3, e8, c1, i1, ev, c123, il, g, pu_s, z2_f, vrf_s, true_and, true_or, or_true, and_self, reduceIte]
      exact kk h1 hf (by rw [h3, hX])
/-- digits -/
theorem c40_d (hT : TA b p h) (hp : p.1 ≤ 250) (hb : ∀ j, j < p.1 → p.2 j ≤ 255) (e3 : gI h (b + 117) 3 = nI s) {X : Nat} (hX8 : X ≤ p.1) (hD : ∀ j, s ≤ j → j < X → isD (p.2 j) = true) (kk : ∀ h2, Fr (fun x j => x = b + 117 ∧ (j = 4 ∨ j = 5)) h h2 → gI h2 (b + 117) 4 = nI X → gI h2 (b + 117) 5 = nI (dv p.2 s (X - s)) → K none h2) :
    ∀ (d e : Nat) (h1 : Hp), s ≤ e → e + d = p.1 → rnF isD p.2 d e = X → Fr (fun x j => x = b + 117 ∧ (j = 4 ∨ j = 5)) h h1 → gI h1 (b + 117) 4 = nI e → gI h1 (b + 117) 5 = nI (dv p.2 s (e - s)) → V 40 169 [.ref (b + 117)] [] h1 K := by
  intro d
  induction d with
  | zero =>
    intro e h1 hs he hX hf h3 h5
    obtain ⟨t1, t2, t3, t4, t5, t6, t7, t8, t9⟩ := hT.nw hp (hf.mo (fun x j z => by unfold NW; omega))
    have ee : e = X := hX
    have e8 : (nI p.1 ≤ nI e) = True := eq_true (nI_le (by omega) (by omega))
    simp only [v40_169, v40_170, v40_173, v40_174, v40_177, v40_289, t1, t8, h3, e8, true_and, reduceIte]
    exact kk h1 hf (by rw [h3, ee]) (by rw [h5, ee])
  | succ d ih =>
    intro e h1 hs he hX hf h3 h5
    obtain ⟨t1, t2, t3, t4, t5, t6, t7, t8, t9⟩ := hT.nw hp (hf.mo (fun x j z => by unfold NW; omega))
    have e3' : gI h1 (b + 117) 3 = nI s := (hf.i (fun z => by omega)).trans e3
    have e8 : (nI p.1 ≤ nI e) = False := eq_false (nI_ge (by omega) (by omega))
    have c1 : (nI e).toNatClampNeg = e := nIc (by omega)
    have i1 : inb (nI e) 250 = True := nIb (by omega) (by omega)
    have ev := t9 e (by omega)
    have hb1 := hb e (by omega)
    have il := in_D hb1
    have r : rnF isD p.2 (d + 1) e = if isD (p.2 e) = true then rnF isD p.2 d (e + 1) else e := rfl
    rw [r] at hX
    cases g : isD (p.2 e) with
    | true =>
      rw [g, if_pos rfl] at hX
      have hX2 := (rnF_le isD p.2 d (e + 1)).1
      rw [hX] at hX2
      have hd := isD_le g
      have sb : nI e - nI s = nI (e - s) := nI_subN hs
      have dl : dv p.2 s (e - s) ≤ 99 := dv_le (fun j hj hj2 => hD j hj (by omega))
      have e2 : ((2 : Int32) ≤ nI (e - s)) = (2 ≤ e - s) := propext (nI_leI (a := 2) (by decide) (by omega))
      by_cases g2 : 2 ≤ e - s
      · have g2' : (2 ≤ e - s) = True := eq_true g2
        simp only [v40_169, v40_170, v40_173, v40_174, v40_177, v40_180, v40_181, v40_184, v40_185, v40_188, v40_189, v40_191, v40_193, v40_196, v40_199, v40_200, v40_201, v40_204, v40_205, v40_208, v40_209, v40_210, v40_236, v40_237, v40_240, v40_243, v40_244, v40_245, v40_248, v40_249, v40_250, gI_pJ, gI_pR, gJ_pI, gJ_pR, gR_pI, gR_pJ, gK_pI, gK_pJ, gK_pR, gN_pI, gN_pJ, gN_pR, gX_pI, gX_pJ, gX_pR, gS_pI, gS_pJ, gS_pR, gK_cpI, gN_cpI, gK_cpJ, gN_cpJ, gR_cpI, gR_cpJ, gJ_cpI, gI_cpJ, t1, t2, t4, t5, t8, h3, h5, e3', e8, c1, i1, ev, c123, il, g, pu_s, z2_t, i10, sb, e2, g2', vrf_s, true_and, true_or, or_true, and_self, reduceIte]
        have e4 : gI (pI h1 (b + 117) 5 (nI (dv p.2 s (e - s)))) (b + 117) 4 = nI e := by rw [gI_ne (by omega)]; exact h3
        rw [e4, nI_1, v40_253]
        refine ih (e + 1) _ (by omega) (by omega) hX ((hf.pI ⟨rfl, Or.inr rfl⟩).pI ⟨rfl, Or.inl rfl⟩) (gI_at _ _ _ _) ?_
        rw [gI_ne (by omega), gI_at, show e + 1 - s = e - s + 1 by omega, dv_2 g2]
      · have g2' : (2 ≤ e - s) = False := eq_false g2
        have se : s + (e - s) = e := by omega
        have dq := dv_s (f := p.2) (s := s) (i := e - s) (by omega) (by rw [se]; exact hd.1)
        rw [se] at dq
        have ar : nI (dv p.2 s (e - s)) * 10 + nI (p.2 e) - 48 = nI (dv p.2 s (e - s + 1)) := by
          rw [show nI (dv p.2 s (e - s)) * 10 = nI (dv p.2 s (e - s) * 10) from nI_mul _ 10, nI_add, ← dq]
          exact nI_subN (b := 48) (by omega)
        simp only [v40_169, v40_170, v40_173, v40_174, v40_177, v40_180, v40_181, v40_184, v40_185, v40_188, v40_189, v40_191, v40_193, v40_196, v40_199, v40_200, v40_201, v40_204, v40_205, v40_208, v40_209, v40_210, v40_213, v40_214, v40_217, v40_219, v40_220, v40_221, v40_224, v40_225, v40_228, v40_229, v40_230, v40_232, v40_233, v40_240, v40_243, v40_244, v40_245, v40_248, v40_249, v40_250, gI_pJ, gI_pR, gJ_pI, gJ_pR, gR_pI, gR_pJ, gK_pI, gK_pJ, gK_pR, gN_pI, gN_pJ, gN_pR, gX_pI, gX_pJ, gX_pR, gS_pI, gS_pJ, gS_pR, gK_cpI, gN_cpI, gK_cpJ, gN_cpJ, gR_cpI, gR_cpJ, gJ_cpI, gI_cpJ, t1, t2, t4, t5, t8, h3, h5, e3', e8, c1, i1, ev, c123, il, g, pu_s, z2_t, i10, sb, e2, g2', ar, vrf_s, true_and, true_or, or_true, and_self, reduceIte]
        have e4 : gI (pI h1 (b + 117) 5 (nI (dv p.2 s (e - s + 1)))) (b + 117) 4 = nI e := by rw [gI_ne (by omega)]; exact h3
        rw [e4, nI_1, v40_253]
        refine ih (e + 1) _ (by omega) (by omega) hX ((hf.pI ⟨rfl, Or.inr rfl⟩).pI ⟨rfl, Or.inl rfl⟩) (gI_at _ _ _ _) ?_
        rw [gI_ne (by omega), gI_at, show e + 1 - s = e - s + 1 by omega]
    | false =>
      rw [g, if_neg Bool.false_ne_true] at hX
      simp only [v40_169, v40_170, v40_173, v40_174, v40_177, v40_180, v40_181, v40_184, v40_185, v40_188, v40_189, v40_191, v40_193, v40_196, v40_289, t1, t2, t4, t5, t8, h3, e8, c1, i1, ev, c123, il, g, pu_s, z2_f, vrf_s, true_and, true_or, or_true, and_self, reduceIte]
      exact kk h1 hf (by rw [h3, hX]) (by rw [h5, hX])
theorem c40_r (hT : TA b p h) (hp : p.1 ≤ 250) (hb : ∀ j, j < p.1 → p.2 j ≤ 255) (hs : s ≤ p.1) (e3 : gI h (b + 117) 3 = nI s) (e4 : gI h (b + 117) 4 = nI s) (e5 : gI h (b + 117) 5 = 0) (kk : ∀ h2, Fr (NW b) h h2 → CT b p (tkS p s) h2 → K none h2) : V 40 59 [.ref (b + 117)] [] h K := by
  obtain ⟨t1, t2, t3, t4, t5, t6, t7, t8, t9⟩ := id hT
  have elt : (nI s < nI p.1) = (s < p.1) := nltN (by omega) (by omega)
  unfold tkS at kk
  by_cases g0 : p.1 ≤ s
  · rw [if_pos g0] at kk
    have g0' : (s < p.1) = False := eq_false (by omega)
    simp only [v40_59, v40_60, v40_63, v40_64, v40_67, v40_70, v40_71, v40_72, v40_75, v40_289, t1, t8, e3, elt, g0', true_and, reduceIte]
    have w : Fr (NW b) h (pI h (b + 117) 2 0) := Fr.rf.pI ⟨rfl, by omega, by omega⟩
    exact kk _ w ⟨hT.nw hp w, gI_at _ _ _ _, by rw [gI_ne (by omega)]; exact e3, by rw [gI_ne (by omega)]; exact e4, by rw [gI_ne (by omega)]; exact e5⟩
  · rw [if_neg g0] at kk
    have g0' : (s < p.1) = True := eq_true (by omega)
    have c1 : (nI s).toNatClampNeg = s := nIc (by omega)
    have i1 : inb (nI s) 250 = True := nIb (by omega) (by omega)
    have ev := t9 s (by omega)
    have hb1 := hb s (by omega)
    have il := in_L hb1
    have id' := in_D hb1
    cases g1 : isL (p.2 s) with
    | true =>
      rw [g1, if_pos rfl] at kk
      simp only [v40_59, v40_60, v40_63, v40_64, v40_67, v40_78, v40_79, v40_82, v40_83, v40_86, v40_87, v40_89, v40_91, v40_94, v40_97, v40_98, v40_99, t1, t2, t4, t5, t8, e3, elt, g0', c1, i1, ev, c123, il, g1, pu_s, z2_t, i10, vrf_s, true_and, true_or, or_true, and_self, reduceIte]
      have w : Fr (NW b) h (pI h (b + 117) 2 1) := Fr.rf.pI ⟨rfl, by omega, by omega⟩
      refine c40_l (X := rnP isL p s) (hT.nw hp w) hp hb (fun h2 q2 x4 => ?_) (p.1 - s) s _ (by omega) rfl Fr.rf (by rw [gI_ne (by omega)]; exact e4)
      have w2 := w.tr (q2.mo (G := NW b) (fun x j z => by unfold NW; omega))
      exact kk h2 w2 ⟨hT.nw hp w2, by rw [q2.i (fun z => by omega)]; exact gI_at _ _ _ _, by rw [q2.i (fun z => by omega), gI_ne (by omega)]; exact e3, x4, by rw [q2.i (fun z => by omega), gI_ne (by omega)]; exact e5⟩
    | false =>
      rw [g1, if_neg Bool.false_ne_true] at kk
      cases g2 : isD (p.2 s) with
      | true =>
        rw [g2, if_pos rfl] at kk
        simp only [v40_59, v40_60, v40_63, v40_64, v40_67, v40_78, v40_79, v40_82, v40_83, v40_86, v40_87, v40_89, v40_91, v40_94, v40_145, v40_146, v40_149, v40_150, v40_153, v40_154, v40_156, v40_158, v40_161, v40_164, v40_165, v40_166, t1, t2, t4, t5, t8, e3, elt, g0', c1, i1, ev, c123, il, id', g1, g2, pu_s, z2_t, z2_f, i10, vrf_s, true_and, true_or, or_true, and_self, reduceIte]
        have w : Fr (NW b) h (pI h (b + 117) 2 2) := Fr.rf.pI ⟨rfl, by omega, by omega⟩
        have hx := rnP_le isD (p := p) hs
        refine c40_d (s := s) (X := rnP isD p s) (hT.nw hp w) hp hb (by rw [gI_ne (by omega)]; exact e3) hx.2 (fun j hj hj2 => rnF_P isD p.2 (p.1 - s) s j hj hj2) (fun h2 q2 x4 x5 => ?_) (p.1 - s) s _ (Nat.le_refl _) (by omega) rfl Fr.rf (by rw [gI_ne (by omega)]; exact e4) (by rw [gI_ne (by omega), Nat.sub_self]; exact e5)
        have w2 := w.tr (q2.mo (G := NW b) (fun x j z => by unfold NW; omega))
        exact kk h2 w2 ⟨hT.nw hp w2, by rw [q2.i (fun z => by omega)]; exact gI_at _ _ _ _, by rw [q2.i (fun z => by omega), gI_ne (by omega)]; exact e3, x4, x5⟩
      | false =>
        rw [g2, if_neg Bool.false_ne_true] at kk
        have e59 : (nI (p.2 s) = 59) = (p.2 s = 59) := neqN (c := 59) (by omega) (by decide)
        by_cases g3 : p.2 s = 59
        · have g3' : (p.2 s = 59) = True := eq_true g3
          rw [if_pos g3] at kk
          simp only [v40_59, v40_60, v40_63, v40_64, v40_67, v40_78, v40_79, v40_82, v40_83, v40_86, v40_87, v40_89, v40_91, v40_94, v40_145, v40_146, v40_149, v40_150, v40_153, v40_154, v40_156, v40_158, v40_161, v40_256, v40_257, v40_258, v40_261, v40_262, v40_265, v40_266, v40_268, v40_271, v40_272, v40_276, v40_279, v40_280, v40_281, v40_284, v40_285, v40_286, v40_289, gI_pJ, gI_pR, gJ_pI, gJ_pR, gR_pI, gR_pJ, gK_pI, gK_pJ, gK_pR, gN_pI, gN_pJ, gN_pR, gX_pI, gX_pJ, gX_pR, gS_pI, gS_pJ, gS_pR, gK_cpI, gN_cpI, gK_cpJ, gN_cpJ, gR_cpI, gR_cpJ, gJ_cpI, gI_cpJ, t1, t2, t4, t5, t8, e3, elt, g0', c1, i1, ev, c123, il, id', g1, g2, e59, g3', pu_s, z2_f, vrf_s, not_true_eq_false, true_and, true_or, or_true, and_self, reduceIte]
          have e4' : gI (pI h (b + 117) 2 3) (b + 117) 4 = nI s := by rw [gI_ne (by omega)]; exact e4
          rw [e4', nI_1]
          have w : Fr (NW b) h (pI (pI h (b + 117) 2 3) (b + 117) 4 (nI (s + 1))) := (Fr.rf.pI ⟨rfl, by omega, by omega⟩).pI ⟨rfl, by omega, by omega⟩
          exact kk _ w ⟨hT.nw hp w, by rw [gI_ne (by omega)]; exact gI_at _ _ _ _, by rw [gI_ne (by omega), gI_ne (by omega)]; exact e3, gI_at _ _ _ _, by rw [gI_ne (by omega), gI_ne (by omega)]; exact e5⟩
        · rw [if_neg g3] at kk
          simp only [v40_59, v40_60, v40_63, v40_64, v40_67, v40_78, v40_79, v40_82, v40_83, v40_86, v40_87, v40_89, v40_91, v40_94, v40_145, v40_146, v40_149, v40_150, v40_153, v40_154, v40_156, v40_158, v40_161, v40_256, v40_257, v40_258, v40_261, v40_262, v40_265, v40_266, v40_268, v40_275, v40_276, v40_279, v40_280, v40_281, v40_284, v40_285, v40_286, v40_289, gI_pJ, gI_pR, gJ_pI, gJ_pR, gR_pI, gR_pJ, gK_pI, gK_pJ, gK_pR, gN_pI, gN_pJ, gN_pR, gX_pI, gX_pJ, gX_pR, gS_pI, gS_pJ, gS_pR, gK_cpI, gN_cpI, gK_cpJ, gN_cpJ, gR_cpI, gR_cpJ, gJ_cpI, gI_cpJ, t1, t2, t4, t5, t8, e3, elt, g0', c1, i1, ev, c123, il, id', g1, g2, e59, g3, pu_s, z2_f, vrf_s, not_false_eq_true, true_and, true_or, or_true, and_self, reduceIte]
          have e4' : gI (pI h (b + 117) 2 4) (b + 117) 4 = nI s := by rw [gI_ne (by omega)]; exact e4
          rw [e4', nI_1]
          have w : Fr (NW b) h (pI (pI h (b + 117) 2 4) (b + 117) 4 (nI (s + 1))) := (Fr.rf.pI ⟨rfl, by omega, by omega⟩).pI ⟨rfl, by omega, by omega⟩
          exact kk _ w ⟨hT.nw hp w, by rw [gI_ne (by omega)]; exact gI_at _ _ _ _, by rw [gI_ne (by omega), gI_ne (by omega)]; exact e3, gI_at _ _ _ _, by rw [gI_ne (by omega), gI_ne (by omega)]; exact e5⟩
/-- the class's next token -/
theorem c40 (hT : TA b p h) (hp : p.1 ≤ 250) (hb : ∀ j, j < p.1 → p.2 j ≤ 255) {e : Nat} (he : e ≤ p.1) (h4 : gI h (b + 117) 4 = nI e) (kk : ∀ h2, Fr (NW b) h h2 → CT b p (tok p e) h2 → K none h2) : AM 40 [.ref (b + 117)] h K := by
  have t1 := hT.1
  simp only [e40, v40_0, v40_1, v40_2, v40_5, t1, h4, true_and]
  have w : Fr (NW b) h (pI h (b + 117) 3 (nI e)) := Fr.rf.pI ⟨rfl, by omega, by omega⟩
  refine c40_b (X := rnP isB p e) (hT.nw hp w) hp hb (fun h2 q2 x3 => ?_) (p.1 - e) e _ (by omega) rfl Fr.rf (gI_at _ _ _ _)
  have hT2 := (hT.nw hp w).nw hp q2
  have t1' := hT2.1
  simp only [v40_46, v40_47, v40_48, v40_51, v40_54, v40_55, v40_56, gI_pJ, gI_pR, gJ_pI, gJ_pR, gR_pI, gR_pJ, gK_pI, gK_pJ, gK_pR, gN_pI, gN_pJ, gN_pR, gX_pI, gX_pJ, gX_pR, gS_pI, gS_pJ, gS_pR, gK_cpI, gN_cpI, gK_cpJ, gN_cpJ, gR_cpI, gR_cpJ, gJ_cpI, gI_cpJ, t1', x3, true_and]
  have w3 : Fr (NW b) h2 (pI (pI h2 (b + 117) 4 (nI (rnP isB p e))) (b + 117) 5 0) := (Fr.rf.pI ⟨rfl, by omega, by omega⟩).pI ⟨rfl, by omega, by omega⟩
  exact c40_r (hT2.nw hp w3) hp hb (rnP_le isB he).2 (by rw [gI_ne (by omega), gI_ne (by omega)]; exact x3) (by rw [gI_ne (by omega), gI_at]) (gI_at _ _ _ _) (fun h4 q4 hC => kk h4 (((w.tr q2).tr w3).tr q4) hC)
def MW (m : Nat) (x j : Nat) : Prop := x = m ∧ 20 ≤ j ∧ j ≤ 23
theorem MTA.nw (hT : MTA m p h) (w : Fr (MW m) h h1) : MTA m p h1 := hT.fr w (fun u j z => by unfold MW at z; omega)
theorem MSh.nw (hM : MSh m h) (w : Fr (MW m) h h1) : MSh m h1 := by
  have key : ∀ j ∈ mfL.map (fun q => q.1), ¬ (20 ≤ j ∧ j ≤ 23) := by decide
  exact hM.fr w (fun a j z => by unfold MW at z; exact ⟨by omega, fun v => key j v.2 z.2⟩)
theorem d161 {c : Nat} (hc : c ≤ 255) : AM 161 [.int (nI c)] h K = K (some (.int (z2 (isL c)))) h := (c161 _).trans (by rw [in_L hc])
theorem d162 {c : Nat} (hc : c ≤ 255) : AM 162 [.int (nI c)] h K = K (some (.int (z2 (isD c)))) h := (c162 _).trans (by rw [in_D hc])
theorem c163_b (hM : MSh m h) (hT : MTA m p h) (hp : p.1 ≤ 250) (hb : ∀ j, j < p.1 → p.2 j ≤ 255) {X : Nat} (kk : ∀ h2, Fr (MW m) h h2 → gI h2 m 20 = nI X → V 163 38 [.ref m] [] h2 K) :
    ∀ (d e : Nat) (h1 : Hp), e + d = p.1 → rnF isB p.2 d e = X → Fr (MW m) h h1 → gI h1 m 20 = nI e → V 163 0 [.ref m] [] h1 K := by
  intro d
  induction d with
  | zero =>
    intro e h1 he hX hf h3
    obtain ⟨t8, t9⟩ := hT.nw hf
    have hM1 := hM.nw hf
    have ee : e = X := hX
    have e8 : (nI p.1 ≤ nI e) = True := eq_true (nI_le (by omega) (by omega))
    simp only [v163_0, v163_1, v163_4, v163_5, v163_8, hM1.k0, t8, h3, e8, true_and, reduceIte]
    exact kk h1 hf (by rw [h3, ee])
  | succ d ih =>
    intro e h1 he hX hf h3
    obtain ⟨t8, t9⟩ := hT.nw hf
    have hM1 := hM.nw hf
    have e8 : (nI p.1 ≤ nI e) = False := eq_false (nI_ge (by omega) (by omega))
    have c1 : (nI e).toNatClampNeg = e := nIc (by omega)
    have i1 : inb (nI e) 250 = True := nIb (by omega) (by omega)
    have ev := t9 e (by omega)
    have hb1 := hb e (by omega)
    have e32 : (nI (p.2 e) = 32) = (p.2 e = 32) := neqN (c := 32) (by omega) (by decide)
    have r : rnF isB p.2 (d + 1) e = if isB (p.2 e) = true then rnF isB p.2 d (e + 1) else e := rfl
    rw [r] at hX
    by_cases g : p.2 e = 32
    · have gb : isB (p.2 e) = true := decide_eq_true g
      rw [if_pos gb] at hX
      have g' : (p.2 e = 32) = True := eq_true g
      simp only [v163_0, v163_1, v163_4, v163_5, v163_8, v163_11, v163_12, v163_15, v163_16, v163_19, v163_20, v163_22, v163_25, v163_26, v163_27, v163_30, v163_31, v163_32, hM1.k0, hM1.f6, hM1.k15, hM1.n15, t8, h3, e8, c1, i1, ev, e32, g', vrf_s, not_true_eq_false, true_and, true_or, or_true, and_self, reduceIte, nI_1]
      rw [v163_35]
      exact ih (e + 1) _ (by omega) hX (hf.pI ⟨rfl, by omega, by omega⟩) (gI_at _ _ _ _)
    · have gb : ¬ isB (p.2 e) = true := fun z => g (of_decide_eq_true z)
      rw [if_neg gb] at hX
      simp only [v163_0, v163_1, v163_4, v163_5, v163_8, v163_11, v163_12, v163_15, v163_16, v163_19, v163_20, v163_22, hM1.k0, hM1.f6, hM1.k15, hM1.n15, t8, h3, e8, c1, i1, ev, e32, g, vrf_s, not_false_eq_true, true_and, true_or, or_true, and_self, reduceIte]
      exact kk h1 hf (by rw [h3, hX])
theorem c163_l (hM : MSh m h) (hT : MTA m p h) (hp : p.1 ≤ 250) (hb : ∀ j, j < p.1 → p.2 j ≤ 255) {X : Nat} (kk : ∀ h2, Fr (fun x j => x = m ∧ j = 20) h h2 → gI h2 m 20 = nI X → K none h2) :
    ∀ (d e : Nat) (h1 : Hp), e + d = p.1 → rnF isL p.2 d e = X → Fr (fun x j => x = m ∧ j = 20) h h1 → gI h1 m 20 = nI e → V 163 90 [.ref m] [] h1 K := by
  intro d
  induction d with
  | zero =>
    intro e h1 he hX hf h3
    have hf' := hf.mo (G := MW m) (fun x j z => by unfold MW; omega)
    obtain ⟨t8, t9⟩ := hT.nw hf'
    have hM1 := hM.nw hf'
    have ee : e = X := hX
    have e8 : (nI p.1 ≤ nI e) = True := eq_true (nI_le (by omega) (by omega))
    simp only [v163_90, v163_91, v163_94, v163_95, v163_98, v163_263, hM1.k0, t8, h3, e8, true_and, reduceIte]
    exact kk h1 hf (by rw [h3, ee])
  | succ d ih =>
    intro e h1 he hX hf h3
    have hf' := hf.mo (G := MW m) (fun x j z => by unfold MW; omega)
    obtain ⟨t8, t9⟩ := hT.nw hf'
    have hM1 := hM.nw hf'
    have e8 : (nI p.1 ≤ nI e) = False := eq_false (nI_ge (by omega) (by omega))
    have c1 : (nI e).toNatClampNeg = e := nIc (by omega)
    have i1 : inb (nI e) 250 = True := nIb (by omega) (by omega)
    have ev := t9 e (by omega)
    have hb1 := hb e (by omega)
    have r : rnF isL p.2 (d + 1) e = if isL (p.2 e) = true then rnF isL p.2 d (e + 1) else e := rfl
    rw [r] at hX
    cases g : isL (p.2 e) with
    | true =>
      rw [g, if_pos rfl] at hX
      simp only [v163_90, v163_91, v163_94, v163_95, v163_98, v163_101, v163_102, v163_105, v163_106, v163_109, v163_110, v163_113, v163_116, v163_117, v163_118, v163_121, v163_122, v163_123, hM1.k0, hM1.f6, hM1.k15, hM1.n15, t8, h3, e8, c1, i1, ev, d161 hb1, g, pu_s, z2_t, i10, vrf_s, true_and, true_or, or_true, and_self, reduceIte, nI_1]
      rw [v163_126]
      exact ih (e + 1) _ (by omega) hX (hf.pI ⟨rfl, rfl⟩) (gI_at _ _ _ _)
    | false =>
      rw [g, if_neg Bool.false_ne_true] at hX
      simp only [v163_90, v163_91, v163_94, v163_95, v163_98, v163_101, v163_102, v163_105, v163_106, v163_109, v163_110, v163_113, v163_263, hM1.k0, hM1.f6, hM1.k15, hM1.n15, t8, h3, e8, c1, i1, ev, d161 hb1, g, pu_s, z2_f, vrf_s, true_and, true_or, or_true, and_self, reduceIte]
      exact kk h1 hf (by rw [h3, hX])
def dvR (f : Nat → Nat) (s n : Nat) : Nat := if n ≤ 2 then dv f s n else 100000
theorem dvR_v (p : TPE) (s X : Nat) : vR (2, s, X, dv p.2 s (X - s)) = dvR p.2 s (X - s) := by
  by_cases g : X - s ≤ 2
  · have h1 : vR (2, s, X, dv p.2 s (X - s)) = dv p.2 s (X - s) := if_neg (fun z => absurd (show 2 < X - s from z.2) (by omega))
    have h2 : dvR p.2 s (X - s) = dv p.2 s (X - s) := if_pos g
    rw [h1, h2]
  · have h1 : vR (2, s, X, dv p.2 s (X - s)) = 100000 := if_pos ⟨rfl, show 2 < X - s by omega⟩
    have h2 : dvR p.2 s (X - s) = 100000 := if_neg g
    rw [h1, h2]
theorem c163_d (hM : MSh m h) (hT : MTA m p h) (hp : p.1 ≤ 250) (hb : ∀ j, j < p.1 → p.2 j ≤ 255) (e3 : gI h m 22 = nI s) {X : Nat} (hX8 : X ≤ p.1) (hD : ∀ j, s ≤ j → j < X → isD (p.2 j) = true) (kk : ∀ h2, Fr (fun x j => x = m ∧ (j = 20 ∨ j = 23)) h h2 → gI h2 m 20 = nI X → gI h2 m 23 = nI (dvR p.2 s (X - s)) → K none h2) :
    ∀ (d e : Nat) (h1 : Hp), s ≤ e → e + d = p.1 → rnF isD p.2 d e = X → Fr (fun x j => x = m ∧ (j = 20 ∨ j = 23)) h h1 → gI h1 m 20 = nI e → gI h1 m 23 = nI (dvR p.2 s (e - s)) → V 163 149 [.ref m] [] h1 K := by
  intro d
  induction d with
  | zero =>
    intro e h1 hs he hX hf h3 h5
    have hf' := hf.mo (G := MW m) (fun x j z => by unfold MW; omega)
    obtain ⟨t8, t9⟩ := hT.nw hf'
    have hM1 := hM.nw hf'
    have ee : e = X := hX
    have e8 : (nI p.1 ≤ nI e) = True := eq_true (nI_le (by omega) (by omega))
    simp only [v163_149, v163_150, v163_153, v163_154, v163_157, v163_263, hM1.k0, t8, h3, e8, true_and, reduceIte]
    exact kk h1 hf (by rw [h3, ee]) (by rw [h5, ee])
  | succ d ih =>
    intro e h1 hs he hX hf h3 h5
    have hf' := hf.mo (G := MW m) (fun x j z => by unfold MW; omega)
    obtain ⟨t8, t9⟩ := hT.nw hf'
    have hM1 := hM.nw hf'
    have e3' : gI h1 m 22 = nI s := (hf.i (fun z => by omega)).trans e3
    have e8 : (nI p.1 ≤ nI e) = False := eq_false (nI_ge (by omega) (by omega))
    have c1 : (nI e).toNatClampNeg = e := nIc (by omega)
    have i1 : inb (nI e) 250 = True := nIb (by omega) (by omega)
    have ev := t9 e (by omega)
    have hb1 := hb e (by omega)
    have r : rnF isD p.2 (d + 1) e = if isD (p.2 e) = true then rnF isD p.2 d (e + 1) else e := rfl
    rw [r] at hX
    cases g : isD (p.2 e) with
    | true =>
      rw [g, if_pos rfl] at hX
      have hX2 := (rnF_le isD p.2 d (e + 1)).1
      rw [hX] at hX2
      have hd := isD_le g
      have sb : nI e - nI s = nI (e - s) := nI_subN hs
      have dl : dv p.2 s (e - s) ≤ 99 := dv_le (fun j hj hj2 => hD j hj (by omega))
      have e2 : ((2 : Int32) ≤ nI (e - s)) = (2 ≤ e - s) := propext (nI_leI (a := 2) (by decide) (by omega))
      by_cases g2 : 2 ≤ e - s
      · have g2' : (2 ≤ e - s) = True := eq_true g2
        simp only [v163_149, v163_150, v163_153, v163_154, v163_157, v163_160, v163_161, v163_164, v163_165, v163_168, v163_169, v163_172, v163_175, v163_176, v163_177, v163_180, v163_181, v163_184, v163_185, v163_186, v163_212, v163_214, v163_217, v163_218, v163_219, v163_222, v163_223, v163_224, gI_pJ, gI_pR, gJ_pI, gJ_pR, gR_pI, gR_pJ, gK_pI, gK_pJ, gK_pR, gN_pI, gN_pJ, gN_pR, gX_pI, gX_pJ, gX_pR, gS_pI, gS_pJ, gS_pR, gK_cpI, gN_cpI, gK_cpJ, gN_cpJ, gR_cpI, gR_cpJ, gJ_cpI, gI_cpJ, hM1.k0, hM1.f6, hM1.k15, hM1.n15, t8, h3, h5, e3', e8, c1, i1, ev, d162 hb1, g, pu_s, z2_t, i10, sb, e2, g2', vrf_s, true_and, true_or, or_true, and_self, reduceIte]
        have e4 : gI (pI h1 m 23 100000) m 20 = nI e := by rw [gI_ne (by omega)]; exact h3
        rw [e4, nI_1, v163_227]
        refine ih (e + 1) _ (by omega) (by omega) hX ((hf.pI ⟨rfl, Or.inr rfl⟩).pI ⟨rfl, Or.inl rfl⟩) (gI_at _ _ _ _) ?_
        rw [gI_ne (by omega), gI_at]
        unfold dvR
        rw [if_neg (by omega)]
        rfl
      · have g2' : (2 ≤ e - s) = False := eq_false g2
        have se : s + (e - s) = e := by omega
        have dq := dv_s (f := p.2) (s := s) (i := e - s) (by omega) (by rw [se]; exact hd.1)
        rw [se] at dq
        unfold dvR at h5
        rw [if_pos (by omega)] at h5
        have ar : nI (dv p.2 s (e - s)) * 10 + nI (p.2 e) - 48 = nI (dv p.2 s (e - s + 1)) := by
          rw [show nI (dv p.2 s (e - s)) * 10 = nI (dv p.2 s (e - s) * 10) from nI_mul _ 10, nI_add, ← dq]
          exact nI_subN (b := 48) (by omega)
        simp only [v163_149, v163_150, v163_153, v163_154, v163_157, v163_160, v163_161, v163_164, v163_165, v163_168, v163_169, v163_172, v163_175, v163_176, v163_177, v163_180, v163_181, v163_184, v163_185, v163_186, v163_189, v163_190, v163_193, v163_195, v163_196, v163_197, v163_200, v163_201, v163_204, v163_205, v163_206, v163_208, v163_209, v163_214, v163_217, v163_218, v163_219, v163_222, v163_223, v163_224, gI_pJ, gI_pR, gJ_pI, gJ_pR, gR_pI, gR_pJ, gK_pI, gK_pJ, gK_pR, gN_pI, gN_pJ, gN_pR, gX_pI, gX_pJ, gX_pR, gS_pI, gS_pJ, gS_pR, gK_cpI, gN_cpI, gK_cpJ, gN_cpJ, gR_cpI, gR_cpJ, gJ_cpI, gI_cpJ, hM1.k0, hM1.f6, hM1.k15, hM1.n15, t8, h3, h5, e3', e8, c1, i1, ev, d162 hb1, g, pu_s, z2_t, i10, sb, e2, g2', ar, vrf_s, true_and, true_or, or_true, and_self, reduceIte]
        have e4 : gI (pI h1 m 23 (nI (dv p.2 s (e - s + 1)))) m 20 = nI e := by rw [gI_ne (by omega)]; exact h3
        rw [e4, nI_1, v163_227]
        refine ih (e + 1) _ (by omega) (by omega) hX ((hf.pI ⟨rfl, Or.inr rfl⟩).pI ⟨rfl, Or.inl rfl⟩) (gI_at _ _ _ _) ?_
        rw [gI_ne (by omega), gI_at, show e + 1 - s = e - s + 1 by omega]
        unfold dvR
        rw [if_pos (by omega)]
    | false =>
      rw [g, if_neg Bool.false_ne_true] at hX
      simp only [v163_149, v163_150, v163_153, v163_154, v163_157, v163_160, v163_161, v163_164, v163_165, v163_168, v163_169, v163_172, v163_263, hM1.k0, hM1.f6, hM1.k15, hM1.n15, t8, h3, e8, c1, i1, ev, d162 hb1, g, pu_s, z2_f, vrf_s, true_and, true_or, or_true, and_self, reduceIte]
      exact kk h1 hf (by rw [h3, hX]) (by rw [h5, hX])
theorem c163_r (hM : MSh m h) (hT : MTA m p h) (hp : p.1 ≤ 250) (hb : ∀ j, j < p.1 → p.2 j ≤ 255) (hs : s ≤ p.1) (e3 : gI h m 22 = nI s) (e4 : gI h m 20 = nI s) (e5 : gI h m 23 = 0) (kk : ∀ h2, Fr (MW m) h h2 → MT m p (tkS p s) h2 → K none h2) : V 163 51 [.ref m] [] h K := by
  obtain ⟨t8, t9⟩ := id hT
  have elt : (nI s = nI p.1) = (s = p.1) := neqN (by omega) (by omega)
  have v0 : ∀ k e, k ≠ 2 → vR (k, s, e, 0) = 0 := fun k e hk => if_neg (fun z => hk z.1)
  unfold tkS at kk
  by_cases g0 : p.1 ≤ s
  · rw [if_pos g0] at kk
    have g0' : (s = p.1) = True := eq_true (by omega)
    simp only [v163_51, v163_52, v163_55, v163_56, v163_59, v163_62, v163_63, v163_64, v163_67, v163_263, hM.k0, t8, e4, elt, g0', true_and, not_true_eq_false, reduceIte]
    have w : Fr (MW m) h (pI h m 21 0) := Fr.rf.pI ⟨rfl, by omega, by omega⟩
    refine kk _ w ⟨hT.nw w, gI_at _ _ _ _, by rw [gI_ne (by omega)]; exact e3, by rw [gI_ne (by omega)]; exact e4, ?_⟩
    rw [gI_ne (by omega), e5, v0 0 s (by decide)]
    rfl
  · rw [if_neg g0] at kk
    have g0' : (s = p.1) = False := eq_false (by omega)
    have c1 : (nI s).toNatClampNeg = s := nIc (by omega)
    have i1 : inb (nI s) 250 = True := nIb (by omega) (by omega)
    have ev := t9 s (by omega)
    have hb1 := hb s (by omega)
    cases g1 : isL (p.2 s) with
    | true =>
      rw [g1, if_pos rfl] at kk
      simp only [v163_51, v163_52, v163_55, v163_56, v163_59, v163_70, v163_71, v163_74, v163_75, v163_78, v163_79, v163_82, v163_85, v163_86, v163_87, hM.k0, hM.f6, hM.k15, hM.n15, t8, e4, elt, g0', c1, i1, ev, d161 hb1, g1, pu_s, z2_t, i10, vrf_s, not_false_eq_true, true_and, true_or, or_true, and_self, reduceIte]
      have w : Fr (MW m) h (pI h m 21 1) := Fr.rf.pI ⟨rfl, by omega, by omega⟩
      refine c163_l (X := rnP isL p s) (hM.nw w) (hT.nw w) hp hb (fun h2 q2 x4 => ?_) (p.1 - s) s _ (by omega) rfl Fr.rf (by rw [gI_ne (by omega)]; exact e4)
      have w2 := w.tr (q2.mo (G := MW m) (fun x j z => by unfold MW; omega))
      refine kk h2 w2 ⟨hT.nw w2, by rw [q2.i (fun z => by omega)]; exact gI_at _ _ _ _, by rw [q2.i (fun z => by omega), gI_ne (by omega)]; exact e3, x4, ?_⟩
      rw [q2.i (fun z => by omega), gI_ne (by omega), e5, v0 1 _ (by decide)]
      rfl
    | false =>
      rw [g1, if_neg Bool.false_ne_true] at kk
      cases g2 : isD (p.2 s) with
      | true =>
        rw [g2, if_pos rfl] at kk
        simp only [v163_51, v163_52, v163_55, v163_56, v163_59, v163_70, v163_71, v163_74, v163_75, v163_78, v163_79, v163_82, v163_129, v163_130, v163_133, v163_134, v163_137, v163_138, v163_141, v163_144, v163_145, v163_146, hM.k0, hM.f6, hM.k15, hM.n15, t8, e4, elt, g0', c1, i1, ev, d161 hb1, d162 hb1, g1, g2, pu_s, z2_t, z2_f, i10, vrf_s, not_false_eq_true, true_and, true_or, or_true, and_self, reduceIte]
        have w : Fr (MW m) h (pI h m 21 2) := Fr.rf.pI ⟨rfl, by omega, by omega⟩
        have hx := rnP_le isD (p := p) hs
        refine c163_d (s := s) (X := rnP isD p s) (hM.nw w) (hT.nw w) hp hb (by rw [gI_ne (by omega)]; exact e3) hx.2 (fun j hj hj2 => rnF_P isD p.2 (p.1 - s) s j hj hj2) (fun h2 q2 x4 x5 => ?_) (p.1 - s) s _ (Nat.le_refl _) (by omega) rfl Fr.rf (by rw [gI_ne (by omega)]; exact e4) (by rw [gI_ne (by omega), Nat.sub_self]; exact e5)
        have w2 := w.tr (q2.mo (G := MW m) (fun x j z => by unfold MW; omega))
        exact kk h2 w2 ⟨hT.nw w2, by rw [q2.i (fun z => by omega)]; exact gI_at _ _ _ _, by rw [q2.i (fun z => by omega), gI_ne (by omega)]; exact e3, x4, by rw [dvR_v]; exact x5⟩
      | false =>
        rw [g2, if_neg Bool.false_ne_true] at kk
        have e59 : (nI (p.2 s) = 59) = (p.2 s = 59) := neqN (c := 59) (by omega) (by decide)
        have fin : ∀ k : Nat, (k = if p.2 s = 59 then 3 else 4) → K none (pI (pI h m 21 (nI k)) m 20 (nI (s + 1))) := fun k hk => by
          have w : Fr (MW m) h (pI (pI h m 21 (nI k)) m 20 (nI (s + 1))) := (Fr.rf.pI ⟨rfl, by omega, by omega⟩).pI ⟨rfl, by omega, by omega⟩
          refine kk _ w ⟨hT.nw w, ?_, by rw [gI_ne (by omega), gI_ne (by omega)]; exact e3, gI_at _ _ _ _, ?_⟩
          · rw [gI_ne (by omega), gI_at, hk]
            rfl
          · rw [gI_ne (by omega), gI_ne (by omega), e5, v0 (if p.2 s = 59 then 3 else 4) (s + 1) (by split <;> decide)]
            rfl
        by_cases g3 : p.2 s = 59
        · have g3' : (p.2 s = 59) = True := eq_true g3
          simp only [v163_51, v163_52, v163_55, v163_56, v163_59, v163_70, v163_71, v163_74, v163_75, v163_78, v163_79, v163_82, v163_129, v163_130, v163_133, v163_134, v163_137, v163_138, v163_141, v163_230, v163_231, v163_232, v163_235, v163_236, v163_239, v163_240, v163_242, v163_245, v163_246, v163_250, v163_253, v163_254, v163_255, v163_258, v163_259, v163_260, v163_263, gI_pJ, gI_pR, gJ_pI, gJ_pR, gR_pI, gR_pJ, gK_pI, gK_pJ, gK_pR, gN_pI, gN_pJ, gN_pR, gX_pI, gX_pJ, gX_pR, gS_pI, gS_pJ, gS_pR, gK_cpI, gN_cpI, gK_cpJ, gN_cpJ, gR_cpI, gR_cpJ, gJ_cpI, gI_cpJ, hM.k0, hM.f6, hM.k15, hM.n15, t8, e4, elt, g0', c1, i1, ev, d161 hb1, d162 hb1, g1, g2, e59, g3', pu_s, z2_f, vrf_s, not_true_eq_false, not_false_eq_true, true_and, true_or, or_true, and_self, reduceIte]
          have e4' : gI (pI h m 21 3) m 20 = nI s := by rw [gI_ne (by omega)]; exact e4
          rw [e4', nI_1]
          exact fin 3 (if_pos g3).symm
        · simp only [v163_51, v163_52, v163_55, v163_56, v163_59, v163_70, v163_71, v163_74, v163_75, v163_78, v163_79, v163_82, v163_129, v163_130, v163_133, v163_134, v163_137, v163_138, v163_141, v163_230, v163_231, v163_232, v163_235, v163_236, v163_239, v163_240, v163_242, v163_249, v163_250, v163_253, v163_254, v163_255, v163_258, v163_259, v163_260, v163_263, gI_pJ, gI_pR, gJ_pI, gJ_pR, gR_pI, gR_pJ, gK_pI, gK_pJ, gK_pR, gN_pI, gN_pJ, gN_pR, gX_pI, gX_pJ, gX_pR, gS_pI, gS_pJ, gS_pR, gK_cpI, gN_cpI, gK_cpJ, gN_cpJ, gR_cpI, gR_cpJ, gJ_cpI, gI_cpJ, hM.k0, hM.f6, hM.k15, hM.n15, t8, e4, elt, g0', c1, i1, ev, d161 hb1, d162 hb1, g1, g2, e59, g3, pu_s, z2_f, vrf_s, not_true_eq_false, not_false_eq_true, true_and, true_or, or_true, and_self, reduceIte]
          have e4' : gI (pI h m 21 4) m 20 = nI s := by rw [gI_ne (by omega)]; exact e4
          rw [e4', nI_1]
          exact fin 4 (if_neg g3).symm
/-- the reference's next token -/
theorem c163 (hM : MSh m h) (hT : MTA m p h) (hp : p.1 ≤ 250) (hb : ∀ j, j < p.1 → p.2 j ≤ 255) {e : Nat} (he : e ≤ p.1) (h4 : gI h m 20 = nI e) (kk : ∀ h2, Fr (MW m) h h2 → MT m p (tok p e) h2 → K none h2) : AM 163 [.ref m] h K := by
  simp only [e163]
  refine c163_b (X := rnP isB p e) hM hT hp hb (fun h2 q2 x3 => ?_) (p.1 - e) e _ (by omega) rfl Fr.rf h4
  have hM2 := hM.nw q2
  have hT2 := hT.nw q2
  simp only [v163_38, v163_39, v163_40, v163_43, v163_46, v163_47, v163_48, gI_pJ, gI_pR, gJ_pI, gJ_pR, gR_pI, gR_pJ, gK_pI, gK_pJ, gK_pR, gN_pI, gN_pJ, gN_pR, gX_pI, gX_pJ, gX_pR, gS_pI, gS_pJ, gS_pR, gK_cpI, gN_cpI, gK_cpJ, gN_cpJ, gR_cpI, gR_cpJ, gJ_cpI, gI_cpJ, hM2.k0, x3, true_and]
  have w3 : Fr (MW m) h2 (pI (pI h2 m 22 (nI (rnP isB p e))) m 23 0) := (Fr.rf.pI ⟨rfl, by omega, by omega⟩).pI ⟨rfl, by omega, by omega⟩
  exact c163_r (hM2.nw w3) (hT2.nw w3) hp hb (rnP_le isB he).2 (by rw [gI_ne (by omega), gI_at]) (by rw [gI_ne (by omega), gI_ne (by omega)]; exact x3) (gI_at _ _ _ _) (fun h4 q4 hC => kk h4 ((q2.tr w3).tr q4) hC)
end
