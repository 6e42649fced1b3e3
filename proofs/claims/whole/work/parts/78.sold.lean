/-! THE MORNING IS HELD, on both sides -/
def dO (t : Nat) (o : Option Nat) : Option Nat := match o with
  | none => none
  | some k => if k = 10 + t then none else if 10 + t < k then some (k - 1) else some k
def dK (l : Nat → Bool) : Nat → Option Nat → Option Nat
  | 0, o => o
  | k + 1, o => dK l k (if l k = true then o else dO k o)
def rmK (l : Nat → Bool) : Nat → SG → SG
  | 0, s => s
  | k + 1, s => rmK l k (if l k = true then s else rmS s k)
def shD (f : Option Nat → Option Nat) (sh : Nat → XH) : Nat → XH := fun i => (f (sh i).1, (sh i).2)
def lfA (A : XA) (t : Nat) : Bool := !mS (mo (aS A) p0 (sM (aS A))) t
def oMrn (A : XA) : XA × Int32 := (wH (wS (wQ A ((aQ A).1 + gaI (aS A) p0, (aQ A).2.1 + 1, (aQ A).2.2)) (rmK (lfA A) (sN (aS A)) (ctS (aS A) 0))) (shD (dK (lfA A) (sN (aS A))) (aH A)), gaI (aS A) p0)
theorem rmK_c (l : Nat → Bool) : ∀ (k : Nat) (s : SG), k ≤ sN s → sN (rmK l k s) = cntN l k + (sN s - k) ∧ sM (rmK l k s) = sM s ∧ sB (rmK l k s) = sB s ∧ sA (rmK l k s) = sA s ∧ (∀ t, t < k → l t = true → sT (rmK l k s) (cntN l t) = sT s t) ∧ ∀ t, k ≤ t → sT (rmK l k s) (cntN l k + (t - k)) = sT s t
  | 0, s, _ => ⟨by show sN s = 0 + (sN s - 0); omega, rfl, rfl, rfl, fun t ht => absurd ht (Nat.not_lt_zero t), fun t _ => by show sT s (0 + (t - 0)) = _; rw [show 0 + (t - 0) = t by omega]⟩
  | k + 1, s, hk => by
    have e : rmK l (k + 1) s = rmK l k (if l k = true then s else rmS s k) := rfl
    have ec : cntN l (k + 1) = cntN l k + if l k = true then 1 else 0 := rfl
    rw [e, ec]
    by_cases g : l k = true
    · rw [if_pos g, if_pos g]
      obtain ⟨i1, i2, i3, i4, i5, i6⟩ := rmK_c l k s (by omega)
      refine ⟨by rw [i1]; omega, i2, i3, i4, fun t ht hl => ?_, fun t ht => ?_⟩
      · by_cases e2 : t = k
        · subst e2
          have := i6 t (Nat.le_refl _)
          rw [Nat.sub_self, Nat.add_zero] at this
          exact this
        · exact i5 t (by omega) hl
      · have := i6 t (by omega)
        rw [show cntN l k + 1 + (t - (k + 1)) = cntN l k + (t - k) by omega]
        exact this
    · rw [if_neg g, if_neg g]
      have en : sN (rmS s k) = sN s - 1 := rfl
      have eT : ∀ u, sT (rmS s k) u = if u < k then sT s u else sT s (u + 1) := fun _ => rfl
      obtain ⟨i1, i2, i3, i4, i5, i6⟩ := rmK_c l k (rmS s k) (by rw [en]; omega)
      refine ⟨by rw [i1, en]; omega, i2, i3, i4, fun t ht hl => ?_, fun t ht => ?_⟩
      · have e2 : t ≠ k := fun z => g (z ▸ hl)
        rw [i5 t (by omega) hl, eT, if_pos (by omega)]
      · have := i6 (t - 1) (by omega)
        rw [show cntN l k + 0 + (t - (k + 1)) = cntN l k + (t - 1 - k) by omega, this, eT, if_neg (by omega), show t - 1 + 1 = t by omega]
theorem dK_c (l : Nat → Bool) : ∀ (k : Nat), dK l k none = none ∧ (∀ j, j < 10 → dK l k (some j) = some j) ∧ (∀ t, t < k → dK l k (some (10 + t)) = if l t = true then some (10 + cntN l t) else none) ∧ ∀ t, k ≤ t → dK l k (some (10 + t)) = some (10 + cntN l k + (t - k))
  | 0 => ⟨rfl, fun _ _ => rfl, fun t ht => absurd ht (Nat.not_lt_zero t), fun t _ => by show some (10 + t) = some (10 + 0 + (t - 0)); rw [show 10 + 0 + (t - 0) = 10 + t by omega]⟩
  | k + 1 => by
    obtain ⟨i1, i2, i3, i4⟩ := dK_c l k
    have e : ∀ o, dK l (k + 1) o = dK l k (if l k = true then o else dO k o) := fun _ => rfl
    have ec : cntN l (k + 1) = cntN l k + if l k = true then 1 else 0 := rfl
    by_cases g : l k = true
    · rw [ec, if_pos g]
      simp only [e, if_pos g]
      refine ⟨i1, i2, fun t ht => ?_, fun t ht => ?_⟩
      · by_cases e2 : t = k
        · subst e2
          rw [i4 t (Nat.le_refl _), if_pos g, Nat.sub_self, Nat.add_zero]
        · exact i3 t (by omega)
      · rw [i4 t (by omega), show 10 + (cntN l k + 1) + (t - (k + 1)) = 10 + cntN l k + (t - k) by omega]
    · rw [ec, if_neg g]
      simp only [e, if_neg g]
      have d0 : ∀ j, dO k (some j) = if j = 10 + k then none else if 10 + k < j then some (j - 1) else some j := fun _ => rfl
      refine ⟨i1, fun j hj => ?_, fun t ht => ?_, fun t ht => ?_⟩
      · rw [d0, if_neg (by omega), if_neg (by omega)]
        exact i2 j hj
      · rw [d0]
        by_cases e2 : t = k
        · subst e2
          rw [if_pos rfl, if_neg g]
          exact i1
        · rw [if_neg (by omega), if_neg (by omega)]
          exact i3 t (by omega)
      · rw [d0, if_neg (by omega), if_pos (by omega), show 10 + t - 1 = 10 + (t - 1) by omega, i4 (t - 1) (by omega), show 10 + (cntN l k + 0) + (t - (k + 1)) = 10 + cntN l k + (t - 1 - k) by omega]
theorem dO_b {t : Nat} {o : Option Nat} {k : Nat} (h : dO t o = some k) : ∃ j, o = some j ∧ k ≤ j := by
  cases o with
  | none => cases h
  | some j =>
    have e : dO t (some j) = if j = 10 + t then none else if 10 + t < j then some (j - 1) else some j := rfl
    rw [e] at h
    split at h
    · cases h
    · split at h
      · cases h; exact ⟨j, rfl, by omega⟩
      · cases h; exact ⟨_, rfl, Nat.le_refl _⟩
theorem rmK_ok (l : Nat → Bool) : ∀ (k : Nat) (s : SG), SOk s → k ≤ sN s → SOk (rmK l k s)
  | 0, s, h, _ => h
  | k + 1, s, h, hk => by
    have e : rmK l (k + 1) s = rmK l k (if l k = true then s else rmS s k) := rfl
    rw [e]
    by_cases g : l k = true
    · rw [if_pos g]
      exact rmK_ok l k s h (by omega)
    · rw [if_neg g]
      exact rmK_ok l k _ (h.rm (by omega)) (by show k ≤ sN s - 1; omega)
theorem nM1 (x : Int32) : x + (-1) = x - 1 := (Int32.sub_eq_add_neg x 1).symm
def shV (t : Nat) (sh : Nat → XH) (i : Nat) : Nat → XH := fun j => if j < i then (dO t (sh j).1, (sh j).2) else sh j
theorem shV_s (t : Nat) (sh : Nat → XH) (i : Nat) : up (shV t sh i) i (dO t (sh i).1, (sh i).2) = shV t sh (i + 1) := by
  funext j
  by_cases e : j = i
  · subst e
    rw [up_at]
    exact (if_pos (Nat.lt_succ_self j)).symm
  · rw [up_ne e]
    unfold shV
    by_cases e2 : j < i
    · rw [if_pos e2, if_pos (by omega)]
    · rw [if_neg e2, if_neg (by omega)]
section
variable {b m x a : Nat} {u : LU} {A : XA} {s : SG} {q : XQ} {sh sh' : Nat → XH} {F : Nat → Nat → Prop} {ρ β : Nat → Nat} {h h1 h2 h3 : Hp} {K : Option Value → Hp → Prop}
theorem SHC.cg (hS : SHC b sh h) (hz : ∀ i, i < 8 → sh i = sh' i) : SHC b sh' h := ⟨hS.1, hS.2.1, fun i hi => by rw [← hz i hi]; exact hS.2.2 i hi⟩
theorem MHS.cg (hS : MHS m sh h) (hz : ∀ i, i < 8 → sh i = sh' i) : MHS m sh' h := fun i hi => by rw [← hz i hi]; exact hS i hi
theorem CL.us2 (hC : CL b A h) (hp : (aP A).1 ≤ 250) (w : Fr F h h1) (hF : ∀ u j, F u j → b + 1 ≤ u ∧ u < b + 37) (hS : ST (b + 1) s q h1) : CL b (wQ (wS A s) q) h1 := by
  obtain ⟨c0, c1, c2, c3, c4, c5, c6⟩ := hC
  exact ⟨c0.fr w (fun a j z => by have := hF a j z; omega), hS, c2.fr w (fun a j z => by have := hF a j z; omega), c3.fr w (fun a j z => by have := hF a j z; omega), c4.fr hp w (fun a j z => by have := hF a j z; omega), c5.fr w (fun a j z => by have := hF a j z; omega), c6.fr w (fun a j z => by have := hF a j z; omega)⟩
theorem CL.ss2 (hC : CL b A h) (hp : (aP A).1 ≤ 250) (w : Fr F h h2) (hF : ∀ x j, F x j → b + 1 ≤ x ∧ x < b + 37 ∧ ¬ (x = b + 1 ∧ 5 ≤ j)) (hQ : SQ (b + 1) ρ β h2) (hV : SV (b + 1) ρ β s h2) (hO : SOk s) : CL b (wS A s) h2 := by
  obtain ⟨-, ⟨-, -, -, -, -, q5, q6, q7⟩, -⟩ := id hC
  exact hC.us2 (q := aQ A) hp w (fun x j z => by have := hF x j z; omega) ⟨ρ, β, hQ, hV, hO, (w.i (fun z => by have := hF _ _ z; omega)).trans q5, (w.i (fun z => by have := hF _ _ z; omega)).trans q6, (w.i (fun z => by have := hF _ _ z; omega)).trans q7⟩
theorem k121 (kb : gK h b = 6) (f5 : gR h b 5 = some (b + 120)) (hS : SHC b sh h) (hb : ∀ i, i < 8 → ∀ k, (sh i).1 = some k → k < 1000) {t : Nat} (ht : t < 8) (kk : ∀ h2, Fr (fun x _ => b + 122 ≤ x ∧ x < b + 138) h h2 → SHC b (shD (dO t) sh) h2 → K none h2) : AM 121 [.ref b, .int (nI t)] h K := by
  have e10 : (10 : Int32) + nI t = nI (10 + t) := nI_add 10 t
  have l : ∀ (j i : Nat) (h1 : Hp), i + j = 8 → Fr (fun x _ => b + 122 ≤ x ∧ x < b + 138) h h1 → SHC b (shV t sh i) h1 → V 121 2 [.ref b, .int (nI t), .int (nI i)] [] h1 K := by
    intro j
    induction j with
    | zero =>
      intro i h1 hi hf hS1
      have e : i = 8 := by omega
      subst e
      have e8 : ((8 : Int32) ≤ nI 8) = True := eq_true (by decide)
      simp only [v121_2, v121_3, v121_5, v121_74, e8, reduceIte]
      exact kk h1 hf (hS1.cg (fun i hi => if_pos hi))
    | succ j ih =>
      intro i h1 hi hf hS1
      have e8 : ((8 : Int32) ≤ nI i) = False := eq_false (nI_ge (b := 8) (by omega) (by decide))
      have y6 : gK h1 b = 6 := hf.k.trans kb
      have y5 : gR h1 b 5 = some (b + 120) := (hf.r (fun z => by omega)).trans f5
      obtain ⟨s1, s2, s3⟩ := id hS1
      obtain ⟨x1, x2, x3, x4, x5, x6, x7, x8⟩ := s3 i (by omega)
      have hsi : shV t sh i i = sh i := if_neg (Nat.lt_irrefl i)
      rw [hsi] at x6 x7
      have c1 : (nI i).toNatClampNeg = i := nIc (by omega)
      have i1 : inb (nI i) 8 = True := nIb (by omega) (by omega)
      have hbi := hb i (by omega)
      have oe := oI_eq hbi (show 10 + t < 1000 by omega)
      have put : ∀ (o : Option Nat) (h2 : Hp), dO t (sh i).1 = o → h2 = pI h1 (b + 122 + 2 * i) 0 (oI o) → Fr (fun x _ => b + 122 ≤ x ∧ x < b + 138) h h2 ∧ SHC b (shV t sh (i + 1)) h2 := fun o h2 ho hh => by
        subst hh
        have w : Fr (fun x _ => x = b + 122 + 2 * i ∨ x = b + 123 + 2 * i) h1 (pI h1 (b + 122 + 2 * i) 0 (oI o)) := Fr.rf.pI (Or.inl rfl)
        refine ⟨hf.pI ⟨by omega, by omega⟩, ?_⟩
        rw [← shV_s, ho]
        refine SHC.put hS1 (by omega) w x3 (gI_at _ _ _ _) ?_ (fun j hj => ?_)
        · rw [gI_ne (by omega)]; exact x7
        · have := x8 j hj
          rw [hsi] at this
          exact this
      have same : dO t (sh i).1 = (sh i).1 → SHC b (shV t sh (i + 1)) h1 := fun hsw => by
        rw [← shV_s, hsw]
        have : up (shV t sh i) i ((sh i).1, (sh i).2) = shV t sh i := by
          funext j
          by_cases e : j = i
          · subst e; rw [up_at, hsi]
          · rw [up_ne e]
        rw [this]
        exact hS1
      by_cases g1 : (sh i).1 = some (10 + t)
      · obtain ⟨w1, w2⟩ := put none _ (by rw [g1]; exact if_pos rfl) rfl
        have oe' : (oI (sh i).1 = nI (10 + t)) = True := by rw [oe]; exact eq_true g1
        simp only [v121_2, v121_3, v121_5, v121_8, v121_9, v121_12, v121_13, v121_14, v121_17, v121_19, v121_20, v121_21, v121_24, v121_25, v121_28, v121_29, v121_30, v121_31, v121_34, v121_68, e8, y6, y5, s1, s2, x1, x2, x6, vrf_s, c1, i1, e10, oe', not_true_eq_false, reduceIte, true_and, true_or, or_true, and_self, nI_1]
        rw [v121_71]
        exact ih (i + 1) _ (by omega) w1 w2
      · have oe' : (oI (sh i).1 = nI (10 + t)) = False := by rw [oe]; exact eq_false g1
        cases ho : (sh i).1 with
        | none =>
          rw [ho] at oe' x6
          have ol : (oI none ≤ nI (10 + t)) = True := eq_true (Int32.le_trans (b := 0) (by decide) (nI_pos' (by omega)))
          have w2 := same (by rw [ho]; rfl)
          simp only [v121_2, v121_3, v121_5, v121_8, v121_9, v121_12, v121_13, v121_14, v121_17, v121_19, v121_20, v121_21, v121_37, v121_38, v121_41, v121_42, v121_43, v121_46, v121_48, v121_49, v121_50, v121_68, e8, y6, y5, s1, s2, x1, x2, x6, vrf_s, c1, i1, e10, oe', ol, not_false_eq_true, reduceIte, true_and, true_or, or_true, and_self, nI_1]
          rw [v121_71]
          exact ih (i + 1) _ (by omega) hf w2
        | some k =>
          have hk := hbi k ho
          have dk : dO t (some k) = if k = 10 + t then none else if 10 + t < k then some (k - 1) else some k := rfl
          have nk : k ≠ 10 + t := fun z => g1 (by rw [ho, z])
          rw [ho] at oe' x6
          have oo : oI (some k) = nI k := rfl
          have ol : (oI (some k) ≤ nI (10 + t)) = (k ≤ 10 + t) := propext (nI_leI (by omega) (by omega))
          by_cases g2 : k ≤ 10 + t
          · have w2 := same (by rw [ho, dk, if_neg nk, if_neg (by omega)])
            simp only [v121_2, v121_3, v121_5, v121_8, v121_9, v121_12, v121_13, v121_14, v121_17, v121_19, v121_20, v121_21, v121_37, v121_38, v121_41, v121_42, v121_43, v121_46, v121_48, v121_49, v121_50, v121_68, e8, y6, y5, s1, s2, x1, x2, x6, vrf_s, c1, i1, e10, oe', ol, g2, not_false_eq_true, reduceIte, true_and, true_or, or_true, and_self, nI_1]
            rw [v121_71]
            exact ih (i + 1) _ (by omega) hf w2
          · obtain ⟨w1, w2⟩ := put (some (k - 1)) _ (by rw [ho, dk, if_neg nk, if_pos (by omega)]) rfl
            have sk : oI (some k) - 1 = oI (some (k - 1)) := nS1 (by omega)
            simp only [v121_2, v121_3, v121_5, v121_8, v121_9, v121_12, v121_13, v121_14, v121_17, v121_19, v121_20, v121_21, v121_37, v121_38, v121_41, v121_42, v121_43, v121_46, v121_48, v121_49, v121_50, v121_53, v121_54, v121_57, v121_58, v121_59, v121_60, v121_63, v121_64, v121_65, v121_68, e8, y6, y5, s1, s2, x1, x2, x6, vrf_s, c1, i1, e10, oe', ol, g2, sk, not_false_eq_true, reduceIte, true_and, true_or, or_true, and_self, nI_1]
            rw [v121_71]
            exact ih (i + 1) _ (by omega) w1 w2
  simp only [e121, v121_0, v121_1]
  exact l 8 0 h rfl Fr.rf (hS.cg (fun i _ => (if_neg (Nat.not_lt_zero i)).symm))
theorem k100_l (hp : (aP A).1 ≤ 250) {l : Nat → Bool} {n : Nat} (hn : n ≤ 8) (v2 : Value) (kk : ∀ (h2 : Hp) (v3 : Value) (s' : SG) (sh' : Nat → XH), Fr (CW b) h h2 → s' = rmK l n s → sh' = shD (dK l n) sh → CL b (wH (wS A s') sh') h2 → V 100 88 [.ref b, .ref (b + 110), v2, v3] [] h2 K) :
    ∀ (k : Nat) (s' : SG) (sh' : Nat → XH) (h1 : Hp), k ≤ n → k ≤ sN s' → SOk s' → rmK l k s' = rmK l n s → shD (dK l k) sh' = shD (dK l n) sh → (∀ i, i < 8 → ∀ k, (sh' i).1 = some k → k < 1000) → Fr (CW b) h h1 → gK h1 (b + 110) = 1 → gI h1 (b + 110) 5 = nI (msk l n) → CL b (wH (wS A s') sh') h1 → V 100 54 [.ref b, .ref (b + 110), v2, .int (nI k - 1)] [] h1 K := by
  intro k
  induction k with
  | zero =>
    intro s' sh' h1 hkn hks hO hs hsh hb hf km kl hC1
    have e : (nI 0 - 1 < 0) = True := eq_true (by decide)
    simp only [v100_54, v100_55, e, reduceIte]
    exact kk h1 _ s' sh' hf hs hsh hC1
  | succ k ih =>
    intro s' sh' h1 hkn hks hO hs hsh hb hf km kl hC1
    have e1 : nI (k + 1) - 1 = nI k := nS1 (a := k + 1) (by omega)
    have e2 : (nI k < 0) = False := eq_false (Int32.not_lt.mpr (nI_pos' (by omega)))
    have bi : bitI (nI (msk l n)) (nI k) = l k := by rw [bitI_N _ k (by omega), msk_t, decide_eq_true (by omega), Bool.true_and]
    obtain ⟨⟨cn, kb, f0, f1, f3, f4, f5, f6⟩, ⟨ρ, β, hQ, hV, hO1, -⟩, -, -, -, hS1, -⟩ := id hC1
    have r : rmK l (k + 1) s' = rmK l k (if l k = true then s' else rmS s' k) := rfl
    have rd : shD (dK l (k + 1)) sh' = shD (dK l k) (if l k = true then sh' else shD (dO k) sh') := by
      funext i
      show (dK l k (if l k = true then (sh' i).1 else dO k (sh' i).1), (sh' i).2) = _
      by_cases g : l k = true
      · rw [if_pos g, if_pos g]; rfl
      · rw [if_neg g, if_neg g]; rfl
    rw [r] at hs
    rw [rd] at hsh
    have k3 := hQ.1
    cases g : l k with
    | true =>
      rw [g, if_pos rfl] at hs hsh
      simp only [v100_54, v100_55, v100_58, v100_59, v100_62, v100_63, v100_66, v100_82, e1, e2, km, kl, c127, bi, g, kb, f0, f1, f3, f4, f5, f6, vrf_s, true_and, true_or, or_true, and_self, not_false_eq_true, pu_s, pu_n, z2_e0, z2_n0, z2_t, z2_f, i10, nM1, not_false_eq_true, reduceIte]
      rw [v100_85]
      exact ih s' sh' h1 (by omega) (by omega) hO hs hsh hb hf km kl hC1
    | false =>
      rw [g, if_neg Bool.false_ne_true] at hs hsh
      simp only [v100_54, v100_55, v100_58, v100_59, v100_62, v100_63, v100_66, v100_69, v100_70, v100_73, v100_74, e1, e2, km, kl, c127, bi, g, kb, f0, f1, f3, f4, f5, f6, vrf_s, true_and, true_or, or_true, and_self, not_false_eq_true, pu_s, pu_n, z2_e0, z2_n0, z2_t, z2_f, k3, not_true_eq_false, reduceIte]
      refine c24 (s := s') hQ hV hO (by omega) (fun h2 q2 hQ2 hV2 => ?_)
      have q2w : ∀ x j, PT2 (b + 1) x j → b + 1 ≤ x ∧ x < b + 37 ∧ ¬ (x = b + 1 ∧ 5 ≤ j) := fun x j z => by unfold PT2 at z; omega
      have hC2 := CL.ss2 hC1 hp q2 q2w hQ2 hV2 (hO.rm (by omega))
      obtain ⟨⟨-, kb2, -, -, -, -, g5, -⟩, -, -, -, -, hS2, -⟩ := id hC2
      simp only [pu_n, v100_77, v100_78, v100_79, kb2, true_and]
      refine k121 kb2 g5 hS2 hb (by omega) (fun h3 q3 hS3 => ?_)
      have hC3 := CL.uh2 hC2 hp q3 (fun x j z => Or.inr z) hS3
      simp only [pu_n, v100_82, nM1]
      rw [v100_85]
      refine ih (rmS s' k) (shD (dO k) sh') h3 (by omega) (by show k ≤ sN s' - 1; omega) (hO.rm (by omega)) hs hsh (fun i hi y hy => ?_) ((hf.tr (q2.mo (fun x j z => by have := q2w x j z; unfold CW; omega))).tr (q3.mo (fun x j z => by unfold CW; omega))) ((q3.k.trans q2.k).trans km) (((q3.i (fun z => by omega)).trans (q2.i (fun z => by have := q2w _ _ z; omega))).trans kl) hC3
      obtain ⟨j, e3, e4⟩ := dO_b hy
      have := hb i hi j e3
      omega
theorem k100 (hC : CL b A h) (hW : WF A) (kk : ∀ h2, Fr (CW b) h h2 → CL b (oMrn A).1 h2 → K (some (.int (oMrn A).2)) h2) : AM 100 [.ref b] h K := by
  obtain ⟨⟨cn0, kb0, -⟩, -⟩ := id hC
  have hp := hW.2.2.1
  simp only [e100, v100_0, v100_1, kb0, true_and]
  refine k120 hC hW (fun h2 ρ' β' q2 hC2 hP2 hG2 => ?_)
  obtain ⟨⟨cn, kb, f0, f1, f3, f4, f5, f6⟩, ⟨ρ, β, hQ, hV, hO, q5, q6, q7⟩, -, -, -, hS2, -⟩ := id hC2
  have km : gK h2 (b + 110) = 1 := hP2.2.2.1.1
  obtain ⟨-, g5, -, g7⟩ := hG2
  have k3 := hQ.1
  obtain ⟨p1, p2, p3, p4, p5⟩ := id hV
  have hn8 := hO.1
  have hm24 := hO.2.1
  simp only [pu_s, v100_4, v100_5, v100_6, v100_9, v100_10, v100_11, v100_14, v100_15, v100_18, v100_19, v100_20, v100_23, v100_24, v100_27, v100_28, v100_31, v100_32, v100_33, v100_36, v100_37, v100_40, v100_41, v100_44, v100_45, v100_48, v100_51, v100_52, v100_53, km, g7, kb, f0, k3, q5, gI_pJ, gI_pR, gJ_pI, gJ_pR, gR_pI, gR_pJ, gK_pI, gK_pJ, gK_pR, gN_pI, gN_pJ, gN_pR, gX_pI, gX_pJ, gX_pR, gS_pI, gS_pJ, gS_pR, gK_cpI, gN_cpI, gK_cpJ, gN_cpJ, gR_cpI, gR_cpJ, gJ_cpI, gI_cpJ, vrf_s, true_and]
  have q3 : FI (fun x j => x = b + 1 ∧ (j = 5 ∨ j = 6 ∨ j = 3)) h2 (pI (pI (pI h2 (b + 1) 5 ((aQ A).1 + gaI (aS A) p0)) (b + 1) 6 ((aQ A).2.1 + 1)) (b + 1) 3 0) := ((FI.rf.pI ⟨rfl, Or.inl rfl⟩).pI ⟨rfl, Or.inr (Or.inl rfl)⟩).pI ⟨rfl, Or.inr (Or.inr rfl)⟩
  have e6 : gI (pI h2 (b + 1) 5 ((aQ A).1 + gaI (aS A) p0)) (b + 1) 6 = (aQ A).2.1 := by rw [gI_ne (by omega)]; exact q6
  have e1 : gI (pI (pI (pI h2 (b + 1) 5 ((aQ A).1 + gaI (aS A) p0)) (b + 1) 6 ((aQ A).2.1 + 1)) (b + 1) 3 0) (b + 1) 1 = nI (sN (aS A)) := (q3.i (fun z => by omega)).trans p1
  rw [e6, e1]
  have hQ3 := hQ.fi q3
  have hV3 : SV (b + 1) ρ β (ctS (aS A) 0) (pI (pI (pI h2 (b + 1) 5 ((aQ A).1 + gaI (aS A) p0)) (b + 1) 6 ((aQ A).2.1 + 1)) (b + 1) 3 0) := by
    refine ⟨e1, gI_at _ _ _ _, fun t ht k hk => ?_, fun c hc => absurd hc (Nat.not_lt_zero c), fun k hk => (q3.i (fun z => by omega)).trans (p5 k hk)⟩
    have ht' : t < sN (aS A) := ht
    obtain ⟨-, -, -, x4, x5⟩ := hQ.th (show t < 8 by omega)
    exact (q3.i (fun z => by omega)).trans (p3 t ht k hk)
  have hO3 : SOk (ctS (aS A) 0) := ⟨hO.1, Nat.zero_le _, hO.2.2.1, fun c hc => absurd hc (Nat.not_lt_zero c), fun c d _ hd => absurd hd (Nat.not_lt_zero d), hO.2.2.2.2.2⟩
  have hC3 := CL.us2 (s := ctS (aS A) 0) (q := ((aQ A).1 + gaI (aS A) p0, (aQ A).2.1 + 1, (aQ A).2.2)) hC2 hp q3.1 (fun x j z => by omega) ⟨ρ, β, hQ3, hV3, hO3, by rw [gI_ne (by omega), gI_ne (by omega), gI_at], by rw [gI_ne (by omega), gI_at], (q3.i (fun z => by omega)).trans q7⟩
  refine k100_l (A := wQ A ((aQ A).1 + gaI (aS A) p0, (aQ A).2.1 + 1, (aQ A).2.2)) (s := ctS (aS A) 0) (sh := aH A) (l := lfA A) (n := sN (aS A)) hp hn8 _ (fun h4 v3 s' sh' q4 hs hsh hC4 => ?_) (sN (aS A)) (ctS (aS A) 0) (aH A) _ (Nat.le_refl _) (Nat.le_refl _) hO3 rfl rfl (fun i hi k hk => ?_) (q2.tr (q3.1.mo (fun x j z => by unfold CW; omega))) (q3.1.k.trans km) ((q3.i (fun z => by omega)).trans g5) hC3
  · subst hs hsh
    simp only [v100_88, v100_89]
    exact kk h4 q4 hC4
  · have := (hW.2.2.2.2 i hi).2 k hk
    omega
theorem cntN_lt {l : Nat → Bool} {t : Nat} (hl : l t = true) : ∀ n, t < n → cntN l t < cntN l n
  | 0, h => absurd h (Nat.not_lt_zero t)
  | n + 1, h => by
    have ec : cntN l (n + 1) = cntN l n + if l n = true then 1 else 0 := rfl
    by_cases e : t = n
    · subst e
      rw [ec, if_pos hl]
      omega
    · have := cntN_lt hl n (by omega)
      omega
theorem cntN_ex {l : Nat → Bool} : ∀ (n k : Nat), k < cntN l n → ∃ t, t < n ∧ l t = true ∧ cntN l t = k
  | 0, k, h => absurd h (Nat.not_lt_zero k)
  | n + 1, k, h => by
    have ec : cntN l (n + 1) = cntN l n + if l n = true then 1 else 0 := rfl
    by_cases e : k < cntN l n
    · obtain ⟨t, h1, h2, h3⟩ := cntN_ex n k e
      exact ⟨t, by omega, h2, h3⟩
    · by_cases g : l n = true
      · rw [ec, if_pos g] at h
        exact ⟨n, by omega, g, by omega⟩
      · rw [ec, if_neg g] at h
        omega
/-- a row is moved -/
theorem k225_c (hM : MSh m h) {c i : Nat} (hc : c < 8) (hi : i < 8) (v1 v3 : Value) (kk : ∀ h2, Fr (fun x _ => x = m + (18 + c)) h h2 → (∀ y, y < 7 → gI h2 (m + (18 + c)) y = gI h (m + (18 + i)) y) → V 225 88 [.ref m, v1, .int (nI c), v3, .int (nI i), .int (nI 7)] [] h2 K) :
    ∀ (d k : Nat) (h1 : Hp), k + d = 7 → Fr (fun x _ => x = m + (18 + c)) h h1 → (∀ y, gI h1 (m + (18 + c)) y = if y < k then gI h (m + (18 + i)) y else gI h (m + (18 + c)) y) → V 225 56 [.ref m, v1, .int (nI c), v3, .int (nI i), .int (nI k)] [] h1 K := by
  intro d
  induction d with
  | zero =>
    intro k h1 hk hf hz
    have e : k = 7 := by omega
    subst e
    have e8 : ((7 : Int32) ≤ nI 7) = True := eq_true (by decide)
    simp only [v225_56, v225_58, v225_60, e8, reduceIte]
    exact kk h1 hf (fun y hy => by rw [hz, if_pos hy])
  | succ d ih =>
    intro k h1 hk hf hz
    have e8 : ((7 : Int32) ≤ nI k) = False := eq_false (nI_ge (b := 7) (by omega) (by decide))
    have hM1 : MSh m h1 := hM.fr hf (fun a j z => ⟨by omega, fun y => by omega⟩)
    obtain ⟨t1, t2, t3⟩ := hM1.th hc
    obtain ⟨u1, u2, u3⟩ := hM1.th hi
    have c1 : (nI c).toNatClampNeg = c := nIc (by omega)
    have i1 : inb (nI c) 8 = True := nIb hc (by omega)
    have c2 : (nI i).toNatClampNeg = i := nIc (by omega)
    have i2 : inb (nI i) 8 = True := nIb hi (by omega)
    have c3 : (nI k).toNatClampNeg = k := nIc (by omega)
    have i3 : inb (nI k) 7 = True := nIb (by omega) (by omega)
    have ev : gI h1 (m + (18 + i)) k = gI h (m + (18 + i)) k := by
      by_cases e : i = c
      · subst e
        rw [hz, if_neg (Nat.lt_irrefl k)]
      · exact hf.i (fun z => by omega)
    simp only [v225_56, v225_58, v225_60, v225_63, v225_64, v225_67, v225_68, v225_69, v225_71, v225_72, v225_75, v225_77, v225_78, v225_80, v225_81, v225_82, e8, hM1.k0, hM1.f10, hM1.k17, hM1.n17, vrf_s, t1, t2, t3, u1, u2, u3, c1, i1, c2, i2, c3, i3, ev, reduceIte, true_and, true_or, or_true, and_self, nI_1]
    rw [v225_85]
    refine ih (k + 1) _ (by omega) (hf.pI rfl) (fun y => ?_)
    by_cases e : y = k
    · subst e
      rw [gI_at, if_pos (Nat.lt_succ_self y)]
    · rw [gI_ne (fun z => e z.2), hz]
      by_cases e2 : y < k
      · rw [if_pos e2, if_pos (by omega)]
      · rw [if_neg e2, if_neg (by omega)]
/-- the things that are left move together -/
theorem k225_1 (hM : MSh m h) (hP : MP m s h) (hO : SOk s) {l : Nat → Bool} (hx : m + 59 ≤ x) (kx : gK h x = 8) (nx : gN h x = 8) (hz : ∀ t, t < 8 → gI h (m + 53) t = z2 (!l t)) (v1 : Value)
    (kk : ∀ (h2 : Hp) (v5 : Value), Fr (fun a _ => a = x ∨ (m + 18 ≤ a ∧ a < m + 26)) h h2 → (∀ t, t < sN s → gI h2 x t = if l t = true then nI (cntN l t) else -1) → (∀ t, t < sN s → l t = true → ∀ k, k < 7 → gI h2 (m + (18 + cntN l t)) k = nI (sT s t k)) → V 225 97 [.ref m, v1, .int (nI (cntN l (sN s))), .ref x, .int (nI (sN s)), v5] [] h2 K) :
    ∀ (d i : Nat) (h1 : Hp) (v5 : Value), i + d = sN s → Fr (fun a _ => a = x ∨ (m + 18 ≤ a ∧ a < m + 26)) h h1 → (∀ t, t < i → gI h1 x t = if l t = true then nI (cntN l t) else -1) → (∀ t, t < i → l t = true → ∀ k, k < 7 → gI h1 (m + (18 + cntN l t)) k = nI (sT s t k)) → (∀ t, i ≤ t → t < sN s → ∀ k, k < 7 → gI h1 (m + (18 + t)) k = nI (sT s t k)) → V 225 15 [.ref m, v1, .int (nI (cntN l i)), .ref x, .int (nI i), v5] [] h1 K := by
  have hn8 := hO.1
  intro d
  induction d with
  | zero =>
    intro i h1 v5 hi hf a1 a2 a3
    have e : i = sN s := by omega
    subst e
    have e8 : (nI (sN s) ≤ nI (sN s)) = True := eq_true (Int32.le_refl _)
    have k0 : gK h1 m = 7 := hf.k.trans hM.k0
    have en : gI h1 m 9 = nI (sN s) := (hf.i (fun z => by omega)).trans hP.1
    simp only [v225_15, v225_17, v225_18, v225_21, k0, en, e8, true_and, reduceIte]
    exact kk h1 v5 hf a1 a2
  | succ d ih =>
    intro i h1 v5 hi hf a1 a2 a3
    have e8 : (nI (sN s) ≤ nI i) = False := eq_false (nI_ge (by omega) (by omega))
    have hM1 : MSh m h1 := hM.fr hf (fun a j z => ⟨by omega, fun y => by omega⟩)
    have en : gI h1 m 9 = nI (sN s) := (hf.i (fun z => by omega)).trans hP.1
    have kx1 : gK h1 x = 8 := hf.k.trans kx
    have nx1 : gN h1 x = 8 := hf.n.trans nx
    have ez : gI h1 (m + 53) i = z2 (!l i) := (hf.i (fun z => by omega)).trans (hz i (by omega))
    have c2 : (nI i).toNatClampNeg = i := nIc (by omega)
    have i2 : inb (nI i) 8 = True := nIb (by omega) (by omega)
    have hc := cntN_le l i
    have ec : cntN l (i + 1) = cntN l i + if l i = true then 1 else 0 := rfl
    cases g : l i with
    | false =>
      rw [g] at ez
      have w : Fr (fun a j => a = x ∧ j = i) h1 (pI h1 x i (-1)) := Fr.rf.pI ⟨rfl, rfl⟩
      have ez' : gI (pI h1 x i (-1)) (m + 53) i = z2 (!false) := (w.i (fun z => by omega)).trans ez
      have k0' : gK (pI h1 x i (-1)) m = 7 := hM1.k0
      have f27' : gR (pI h1 x i (-1)) m 27 = some (m + 53) := hM1.f27
      have k53' : gK (pI h1 x i (-1)) (m + 53) = 10 := hM1.k53
      have n53' : gN (pI h1 x i (-1)) (m + 53) = 8 := hM1.n53
      simp only [v225_15, v225_17, v225_18, v225_21, v225_24, v225_25, v225_27, v225_28, v225_31, v225_33, v225_34, v225_37, v225_38, v225_42, hM1.k0, hM1.f27, hM1.k53, hM1.n53, vrf_s, kx1, nx1, en, e8, c2, i2, ez, Bool.not_false, z2_t, i10, true_and, true_or, or_true, and_self, reduceIte]
      simp only [v225_43, v225_44, v225_47, v225_49, v225_50, v225_91, k0', f27', k53', n53', ez', vrf_s, c2, i2, Bool.not_false, z2_t, i10, not_false_eq_true, true_and, true_or, or_true, and_self, reduceIte, nI_1]
      rw [v225_94]
      have ec' : cntN l (i + 1) = cntN l i := by rw [ec, g]; rfl
      rw [← ec']
      refine ih (i + 1) _ _ (by omega) (hf.pI (Or.inl rfl)) (fun t ht => ?_) (fun t ht hl k hk => ?_) (fun t ht ht2 k hk => ?_)
      · by_cases e : t = i
        · subst e
          rw [gI_at, g]
          rfl
        · rw [gI_ne (fun z => e z.2)]
          exact a1 t (by omega)
      · have e : t ≠ i := fun z => by rw [z, g] at hl; cases hl
        have hct := cntN_le l t
        rw [gI_ne (by omega)]
        exact a2 t (by omega) hl k hk
      · rw [gI_ne (by omega)]
        exact a3 t (by omega) ht2 k hk
    | true =>
      rw [g] at ez
      have w : Fr (fun a j => a = x ∧ j = i) h1 (pI h1 x i (nI (cntN l i))) := Fr.rf.pI ⟨rfl, rfl⟩
      have ez' : gI (pI h1 x i (nI (cntN l i))) (m + 53) i = z2 (!true) := (w.i (fun z => by omega)).trans ez
      have hM2 : MSh m (pI h1 x i (nI (cntN l i))) := hM1.fr w (fun a j z => ⟨by omega, fun y => by omega⟩)
      simp only [v225_15, v225_17, v225_18, v225_21, v225_24, v225_25, v225_27, v225_28, v225_31, v225_33, v225_34, v225_41, v225_42, hM1.k0, hM1.f27, hM1.k53, hM1.n53, vrf_s, kx1, nx1, en, e8, c2, i2, ez, Bool.not_true, z2_f, true_and, true_or, or_true, and_self, reduceIte]
      simp only [v225_43, v225_44, v225_47, v225_49, v225_50, v225_53, v225_54, hM2.k0, hM2.f27, hM2.k53, hM2.n53, ez', vrf_s, c2, i2, Bool.not_true, z2_f, not_true_eq_false, true_and, true_or, or_true, and_self, reduceIte]
      refine k225_c hM2 (show cntN l i < 8 by omega) (show i < 8 by omega) _ _ (fun h3 q3 hz3 => ?_) 7 0 _ rfl Fr.rf (fun y => (if_neg (Nat.not_lt_zero y)).symm)
      simp only [v225_88, v225_91, nI_1]
      rw [v225_94]
      rw [g, if_pos rfl] at ec
      rw [← ec]
      refine ih (i + 1) _ _ (by omega) ((hf.pI (Or.inl rfl)).tr (q3.mo (fun a j z => Or.inr (by omega)))) (fun t ht => ?_) (fun t ht hl k hk => ?_) (fun t ht ht2 k hk => ?_)
      · rw [q3.i (fun z => by omega)]
        by_cases e : t = i
        · subst e
          rw [gI_at, if_pos g]
        · rw [gI_ne (fun z => e z.2)]
          exact a1 t (by omega)
      · by_cases e : t = i
        · subst e
          rw [hz3 k hk, gI_ne (by omega)]
          exact a3 t (Nat.le_refl _) (by omega) k hk
        · have hct := cntN_lt hl i (by omega)
          rw [q3.i (fun z => by omega), gI_ne (by omega)]
          exact a2 t (by omega) hl k hk
      · rw [q3.i (fun z => by omega), gI_ne (by omega)]
        exact a3 t (by omega) ht2 k hk
def shE (f : Option Nat → Option Nat) (sh : Nat → XH) (i : Nat) : Nat → XH := fun j => if j < i then (f (sh j).1, (sh j).2) else sh j
theorem shE_s (f : Option Nat → Option Nat) (sh : Nat → XH) (i : Nat) : up (shE f sh i) i (f (sh i).1, (sh i).2) = shE f sh (i + 1) := by
  funext j
  by_cases e : j = i
  · subst e
    rw [up_at]
    exact (if_pos (Nat.lt_succ_self j)).symm
  · rw [up_ne e]
    unfold shE
    by_cases e2 : j < i
    · rw [if_pos e2, if_pos (by omega)]
    · rw [if_neg e2, if_neg (by omega)]
/-- the shelves follow -/
theorem k225_2 (hM : MSh m h) {l : Nat → Bool} {n : Nat} (hn : n ≤ 8) (hx : m + 59 ≤ x) (kx : gK h x = 8) (nx : gN h x = 8) (hz : ∀ t, t < n → gI h x t = if l t = true then nI (cntN l t) else -1) (hk8 : ∀ i, i < 8 → shOk n (sh i)) (v1 v2 : Value)
    (kk : ∀ (h2 : Hp) (v5 : Value), Fr (fun a _ => a = m + 1 ∨ a = m + 14) h h2 → MHS m (shD (dK l n) sh) h2 → V 225 163 [.ref m, v1, v2, .ref x, .int (nI 8), v5] [] h2 K) :
    ∀ (d i : Nat) (h1 : Hp) (v5 : Value), i + d = 8 → Fr (fun a _ => a = m + 1 ∨ a = m + 14) h h1 → MHS m (shE (dK l n) sh i) h1 → V 225 100 [.ref m, v1, v2, .ref x, .int (nI i), v5] [] h1 K := by
  obtain ⟨d1, d2, d3, -⟩ := dK_c l n
  intro d
  induction d with
  | zero =>
    intro i h1 v5 hi hf hS1
    have e : i = 8 := by omega
    subst e
    have e8 : ((8 : Int32) ≤ nI 8) = True := eq_true (by decide)
    simp only [v225_100, v225_102, v225_104, e8, reduceIte]
    exact kk h1 v5 hf (hS1.cg (fun i hi => if_pos hi))
  | succ d ih =>
    intro i h1 v5 hi hf hS1
    have e8 : ((8 : Int32) ≤ nI i) = False := eq_false (nI_ge (b := 8) (by omega) (by decide))
    have hM1 : MSh m h1 := hM.fr hf (fun a j z => ⟨by omega, fun y => by omega⟩)
    obtain ⟨y1, y2, y3, y4⟩ := hS1 i (by omega)
    have hsi : shE (dK l n) sh i i = sh i := if_neg (Nat.lt_irrefl i)
    rw [hsi] at y1 y2 y3
    have c1 : (nI i).toNatClampNeg = i := nIc (by omega)
    have i1 : inb (nI i) 8 = True := nIb (by omega) (by omega)
    have same : dK l n (sh i).1 = (sh i).1 → MHS m (shE (dK l n) sh (i + 1)) h1 := fun hsw => by
      rw [← shE_s, hsw]
      have : up (shE (dK l n) sh i) i ((sh i).1, (sh i).2) = shE (dK l n) sh i := by
        funext j
        by_cases e : j = i
        · subst e; rw [up_at, hsi]
        · rw [up_ne e]
      rw [this]
      exact hS1
    rcases shTri (hk8 i (by omega)) with ⟨g1, g2, g3, g4⟩ | ⟨k, g1, g1', g2, g3, g4⟩ | ⟨k, g1, g1', g1'', g2, g3, g4⟩
    · rw [g2] at y1
      simp only [v225_100, v225_102, v225_104, v225_107, v225_108, v225_111, v225_113, v225_114, v225_115, v225_157, e8, reduceIte, hM1.k0, hM1.f0, hM1.k1, hM1.n1, vrf_s, c1, i1, y1, q00, q01, q02, q10, q11, q12, q20, q21, q22, not_false_eq_true, true_and, true_or, and_self, nI_1]
      rw [v225_160]
      exact ih (i + 1) h1 _ (by omega) hf (same (by rw [g1]; exact d1))
    · rw [g2] at y1
      simp only [v225_100, v225_102, v225_104, v225_107, v225_108, v225_111, v225_113, v225_114, v225_115, v225_157, e8, reduceIte, hM1.k0, hM1.f0, hM1.k1, hM1.n1, vrf_s, c1, i1, y1, q00, q01, q02, q10, q11, q12, q20, q21, q22, not_false_eq_true, true_and, true_or, and_self, nI_1]
      rw [v225_160]
      exact ih (i + 1) h1 _ (by omega) hf (same (by rw [g1]; exact d2 k (by omega)))
    · obtain ⟨t, rfl⟩ : ∃ t, k = 10 + t := ⟨k - 10, by omega⟩
      rw [g2] at y1
      have hsh := (y2 _ g1).2 (by omega)
      rw [show 10 + t - 10 = t by omega] at hsh
      have c2 : (nI t).toNatClampNeg = t := nIc (by omega)
      have i2 : inb (nI t) 8 = True := nIb (by omega) (by omega)
      have kx1 : gK h1 x = 8 := hf.k.trans kx
      have nx1 : gN h1 x = 8 := hf.n.trans nx
      have hz1 : gI h1 x t = if l t = true then nI (cntN l t) else -1 := (hf.i (fun z => by omega)).trans (hz t (by omega))
      have hd := d3 t (by omega)
      have put : ∀ (v w : Int32), (w = nI (shC (dK l n (sh i).1))) → (∀ y, dK l n (sh i).1 = some y → 10 ≤ y ∧ v = nI (y - 10)) → Fr (fun a _ => a = m + 1 ∨ a = m + 14) h (pI (pI h1 (m + 14) i v) (m + 1) i w) ∧ MHS m (shE (dK l n) sh (i + 1)) (pI (pI h1 (m + 14) i v) (m + 1) i w) := fun v w hw hv => by
        have wf : Fr (fun x j => ((x = m + 1 ∨ x = m + 2 ∨ x = m + 3 ∨ x = m + 14) ∧ j = i) ∨ x = m + (5 + i)) h1 (pI (pI h1 (m + 14) i v) (m + 1) i w) := (Fr.rf.pI (Or.inl ⟨by omega, rfl⟩)).pI (Or.inl ⟨by omega, rfl⟩)
        refine ⟨(hf.pI (Or.inr rfl)).pI (Or.inl rfl), ?_⟩
        rw [← shE_s]
        refine hS1.put wf (by omega) ?_ (fun k2 hk2 => ?_) ?_ (fun j hj => ?_)
        · rw [gI_at]; exact hw
        · obtain ⟨z1, z2⟩ := hv k2 hk2
          refine ⟨fun z => by omega, fun _ => ?_⟩
          rw [gI_ne (by omega), gI_at]
          exact z2
        · rw [gI_ne (by omega), gI_ne (by omega)]; exact y3
        · have := y4 j hj
          rw [hsi] at this
          exact this
      cases g : l t with
      | true =>
        rw [g, if_pos rfl] at hz1 hd
        have hc := cntN_le l t
        have ne : (nI (cntN l t) = -1) = False := nm1 (by omega)
        obtain ⟨w1, w2⟩ := put (nI (cntN l t)) 2 (by rw [g1, hd]; show (2 : Int32) = nI (if 10 + cntN l t ≤ 4 then 1 else 2); rw [if_neg (by omega)]; rfl) (fun y hy => by rw [g1, hd] at hy; cases hy; exact ⟨by omega, by rw [show 10 + cntN l t - 10 = cntN l t by omega]⟩)
        have e14 : gI (pI h1 (m + 14) i (nI (cntN l t))) (m + 14) i = nI (cntN l t) := gI_at _ _ _ _
        simp only [v225_100, v225_102, v225_104, v225_107, v225_108, v225_111, v225_113, v225_114, v225_115, v225_118, v225_119, v225_122, v225_124, v225_125, v225_126, v225_129, v225_131, v225_132, v225_133, v225_134, v225_135, v225_138, v225_140, v225_141, v225_144, v225_146, v225_147, v225_148, v225_155, v225_156, v225_157, gI_pJ, gI_pR, gJ_pI, gJ_pR, gR_pI, gR_pJ, gK_pI, gK_pJ, gK_pR, gN_pI, gN_pJ, gN_pR, gX_pI, gX_pJ, gX_pR, gS_pI, gS_pJ, gS_pR, gK_cpI, gN_cpI, gK_cpJ, gN_cpJ, gR_cpI, gR_cpJ, gJ_cpI, gI_cpJ, e8, reduceIte, hM1.k0, hM1.f0, hM1.k1, hM1.n1, hM1.f5, hM1.k14, hM1.n14, vrf_s, kx1, nx1, c1, i1, c2, i2, y1, hsh, hz1, e14, ne, q00, q01, q02, q10, q11, q12, q20, q21, q22, not_true_eq_false, not_false_eq_true, true_and, true_or, and_self, nI_1]
        rw [v225_160]
        exact ih (i + 1) _ _ (by omega) w1 w2
      | false =>
        rw [g, if_neg Bool.false_ne_true] at hz1 hd
        have ne : ((-1 : Int32) = -1) = True := eq_true rfl
        obtain ⟨w1, w2⟩ := put (-1) 0 (by rw [g1, hd]; rfl) (fun y hy => by rw [g1, hd] at hy; cases hy)
        have e14 : gI (pI h1 (m + 14) i (-1)) (m + 14) i = -1 := gI_at _ _ _ _
        simp only [v225_100, v225_102, v225_104, v225_107, v225_108, v225_111, v225_113, v225_114, v225_115, v225_118, v225_119, v225_122, v225_124, v225_125, v225_126, v225_129, v225_131, v225_132, v225_133, v225_134, v225_135, v225_138, v225_140, v225_141, v225_144, v225_146, v225_147, v225_148, v225_151, v225_152, v225_156, v225_157, gI_pJ, gI_pR, gJ_pI, gJ_pR, gR_pI, gR_pJ, gK_pI, gK_pJ, gK_pR, gN_pI, gN_pJ, gN_pR, gX_pI, gX_pJ, gX_pR, gS_pI, gS_pJ, gS_pR, gK_cpI, gN_cpI, gK_cpJ, gN_cpJ, gR_cpI, gR_cpJ, gJ_cpI, gI_cpJ, e8, reduceIte, hM1.k0, hM1.f0, hM1.k1, hM1.n1, hM1.f5, hM1.k14, hM1.n14, vrf_s, kx1, nx1, c1, i1, c2, i2, y1, hsh, hz1, e14, ne, q00, q01, q02, q10, q11, q12, q20, q21, q22, not_true_eq_false, not_false_eq_true, true_and, true_or, and_self, nI_1]
        rw [v225_160]
        exact ih (i + 1) _ _ (by omega) w1 w2
theorem MLZ.frx {k : Option (SG × XQ)} (hL : MLZ m k u h) (hy : ∀ y, (u.1 = some y ∨ u.2.1 = some y ∨ u.2.2 = some y) → y + 59 ≤ x) (w : Fr F h h1) (hF : ∀ a j, F a j → (a < m + 59 ∧ ¬ (a = m ∧ 17 ≤ j ∧ j ≤ 19)) ∨ x ≤ a) (hx : m + 59 ≤ x) : MLZ m k u h1 := by
  obtain ⟨l1, l2, l3, l4, l5, l6, l7, l8, l9⟩ := hL
  have n17 : ∀ j, 17 ≤ j → j ≤ 19 → ¬ F m j := fun j h1 h2 z => by have := hF m j z; omega
  refine ⟨(w.r (n17 _ (by omega) (by omega))).trans l1, (w.r (n17 _ (by omega) (by omega))).trans l2, (w.r (n17 _ (by omega) (by omega))).trans l3, fun y hy2 => (l4 y hy2).fr w (fun a j z => by have := hF a j z; have := (l4 y hy2).1; have := hy y hy2; omega), l5, l6, l7, l8, fun q y hq hy2 => ?_⟩
  obtain ⟨y1, y2, y3⟩ := l9 q y hq hy2
  have hb := (l4 y (Or.inl hy2)).1
  have hb2 := hy y (Or.inl hy2)
  exact ⟨y1, y2.fr y1 w (fun a j z => by have := hF a j z; exact ⟨fun v => by omega, fun v => by omega, fun v => by omega⟩), y3.fr w (fun j _ _ z => by have := hF _ _ z; omega)⟩
theorem k225 (hR : MR m u A h) (hW : WF A) (kk : ∀ (h2 : Hp) (u2 : LU), MG m h h2 → MR m u2 (oMrn A).1 h2 → K (some (.int (oMrn A).2)) h2) : AM 225 [.ref m] h K := by
  obtain ⟨r0, hM, hpp, hP, hQ, hS, hT, hF, hL⟩ := id hR
  replace kk := fun h2 => kk h2 u
  simp only [e225, v225_0, v225_1, hM.k0, true_and]
  refine c188 hM hP hW.1 (p0_ok _) hpp (fun h2 q2 hD => ?_)
  have hR2 := hR.sc hW q2 (fun a j z => DW.z z)
  have hy2 : ∀ y, (u.1 = some y ∨ u.2.1 = some y ∨ u.2.2 = some y) → y + 59 ≤ gX h2 := fun y hy => (hR2.2.2.2.2.2.2.2.2.2.2.2.1 y hy).2.1
  have g3 : Ag (gX h2) h2 (mk1 h2 8 8 8) := Ag.rf.mk1 (Nat.le_refl _)
  have hR3 := hR2.ag hW g3 (by rw [gX_mk1]; omega)
  obtain ⟨r02, -⟩ := id hR2
  obtain ⟨r03, hM3, hpp3, hP3, hQ3, hS3, hT3, hF3, hL3⟩ := id hR3
  have hn8 := hW.1.1
  simp only [pu_s, v225_4, v225_5, v225_6, v225_7, v225_9, v225_11, v225_12, v225_13]
  refine k225_1 (l := lfA A) (s := aS A) (x := gX h2) hM3 hP3 hW.1 r02 (mk1_K0 _ _ _ _) (mk1_N0 _ _ _ _) (fun t ht => ?_) _ (fun h4 v5 q4 a1 a2 => ?_) (sN (aS A)) 0 _ _ (Nat.zero_add _) Fr.rf (fun t ht => absurd ht (Nat.not_lt_zero t)) (fun t ht => absurd ht (Nat.not_lt_zero t)) (fun t _ ht k hk => hP3.2.2.1 t ht k hk)
  · rw [g3.ai (by omega), hD.1 t ht]
    unfold lfA
    rw [Bool.not_not]
  simp only [v225_97, v225_98]
  have hM4 : MSh m h4 := hM3.fr q4 (fun a j z => ⟨by omega, fun y => by omega⟩)
  have hS4 : MHS m (aH A) h4 := hS3.fr q4 (fun a j z => by omega)
  refine k225_2 (l := lfA A) (n := sN (aS A)) (x := gX h2) (sh := aH A) hM4 hn8 r02 (q4.k.trans (mk1_K0 _ _ _ _)) (q4.n.trans (mk1_N0 _ _ _ _)) a1 hW.2.2.2.2 _ _ (fun h5 v5 q5 hS5 => ?_) 8 0 h4 _ rfl Fr.rf (hS4.cg (fun i _ => (if_neg (Nat.not_lt_zero i)).symm))
  have q35 : Fr (fun a _ => a = gX h2 ∨ (m + 18 ≤ a ∧ a < m + 26) ∨ a = m + 1 ∨ a = m + 14) (mk1 h2 8 8 8) h5 := (q4.mo (fun a j z => by omega)).tr (q5.mo (fun a j z => by omega))
  have hM5 : MSh m h5 := hM4.fr q5 (fun a j z => ⟨by omega, fun y => by omega⟩)
  have e14 : gI h5 m 14 = (aQ A).1 := (q35.i (fun z => by omega)).trans hQ3.1
  have e15 : gI h5 m 15 = (aQ A).2.1 := (q35.i (fun z => by omega)).trans hQ3.2.1
  have e14' : gI (pI (pI h5 m 9 (nI (cntN (lfA A) (sN (aS A))))) m 11 0) m 14 = (aQ A).1 := by rw [gI_ne (by omega), gI_ne (by omega)]; exact e14
  have e15' : gI (pI (pI (pI h5 m 9 (nI (cntN (lfA A) (sN (aS A))))) m 11 0) m 14 ((aQ A).1 + gaI (aS A) p0)) m 15 = (aQ A).2.1 := by rw [gI_ne (by omega), gI_ne (by omega), gI_ne (by omega)]; exact e15
  simp only [v225_163, v225_164, v225_165, v225_168, v225_169, v225_170, v225_173, v225_174, v225_175, v225_178, v225_179, v225_180, v225_183, v225_184, v225_185, v225_188, v225_189, v225_190, v225_193, v225_194, gI_pJ, gI_pR, gJ_pI, gJ_pR, gR_pI, gR_pJ, gK_pI, gK_pJ, gK_pR, gN_pI, gN_pJ, gN_pR, gX_pI, gX_pJ, gX_pR, gS_pI, gS_pJ, gS_pR, gK_cpI, gN_cpI, gK_cpJ, gN_cpJ, gR_cpI, gR_cpJ, gJ_cpI, gI_cpJ, hM5.k0, e14', e15', true_and]
  have q6 : Fr (fun a j => a = m ∧ (j = 9 ∨ j = 11 ∨ j = 14 ∨ j = 15)) h5 (pI (pI (pI (pI h5 m 9 (nI (cntN (lfA A) (sN (aS A))))) m 11 0) m 14 ((aQ A).1 + gaI (aS A) p0)) m 15 ((aQ A).2.1 + 1)) := (((Fr.rf.pI ⟨rfl, by omega⟩).pI ⟨rfl, by omega⟩).pI ⟨rfl, by omega⟩).pI ⟨rfl, by omega⟩
  have f9 : gI (pI (pI (pI (pI h5 m 9 (nI (cntN (lfA A) (sN (aS A))))) m 11 0) m 14 ((aQ A).1 + gaI (aS A) p0)) m 15 ((aQ A).2.1 + 1)) m 9 = nI (cntN (lfA A) (sN (aS A))) := by rw [gI_ne (by omega), gI_ne (by omega), gI_ne (by omega), gI_at]
  have f11 : gI (pI (pI (pI (pI h5 m 9 (nI (cntN (lfA A) (sN (aS A))))) m 11 0) m 14 ((aQ A).1 + gaI (aS A) p0)) m 15 ((aQ A).2.1 + 1)) m 11 = 0 := by rw [gI_ne (by omega), gI_ne (by omega), gI_at]
  have f14 : gI (pI (pI (pI (pI h5 m 9 (nI (cntN (lfA A) (sN (aS A))))) m 11 0) m 14 ((aQ A).1 + gaI (aS A) p0)) m 15 ((aQ A).2.1 + 1)) m 14 = (aQ A).1 + gaI (aS A) p0 := by rw [gI_ne (by omega), gI_at]
  have f15 : gI (pI (pI (pI (pI h5 m 9 (nI (cntN (lfA A) (sN (aS A))))) m 11 0) m 14 ((aQ A).1 + gaI (aS A) p0)) m 15 ((aQ A).2.1 + 1)) m 15 = (aQ A).2.1 + 1 := gI_at _ _ _ _
  have q36 := (q35.mo (G := fun a j => a = gX h2 ∨ (m + 18 ≤ a ∧ a < m + 26) ∨ a = m + 1 ∨ a = m + 14 ∨ (a = m ∧ (j = 9 ∨ j = 11 ∨ j = 14 ∨ j = 15))) (fun a j z => by omega)).tr (q6.mo (fun a j z => by omega))
  obtain ⟨z1, z2', z3, z4, z5, z6⟩ := rmK_c (lfA A) (sN (aS A)) (ctS (aS A) 0) (Nat.le_refl _)
  have zn : sN (rmK (lfA A) (sN (aS A)) (ctS (aS A) 0)) = cntN (lfA A) (sN (aS A)) := by rw [z1]; show _ + (sN (aS A) - sN (aS A)) = _; omega
  have key : ∀ j ∈ mfL.map (fun q => q.1), ¬ (j = 9 ∨ j = 11 ∨ j = 14 ∨ j = 15) := by decide
  refine kk _ ⟨((Ag.of q2 (fun a j z => by unfold DW at z; omega)).tr (g3.mo (by omega))).tr (Ag.of q36 (fun a j z => by omega)), by rw [q36.2.2.1, gX_mk1, q2.2.2.1]; omega, by rw [q36.2.2.1, gX_mk1, q2.2.2.1]; omega, by rw [q36.2.2.2.1, gS_mk1, q2.2.2.2.1]; omega⟩ ⟨by rw [q36.2.2.1]; exact r03, hM5.fr q6 (fun a j z => ⟨by omega, fun v => key j v.2 z.2⟩), hpp3.fr q36 (fun j _ _ z => by omega), ⟨?_, ?_, fun k hk y hy => ?_, fun c hc => ?_, fun k hk => ?_⟩, ⟨f14, f15, (q36.i (fun z => by omega)).trans hQ3.2.2⟩, hS5.fr q6 (fun a j z => by omega), hT3.fr q36 (fun a j z => by omega), hF3.fr q36 (fun a j z => by omega), hL3.frx hy2 q36 (fun a j z => by omega) r02⟩
  · show gI _ m 9 = nI (sN (rmK (lfA A) (sN (aS A)) (ctS (aS A) 0)))
    rw [zn]; exact f9
  · show gI _ m 11 = nI (sM (rmK (lfA A) (sN (aS A)) (ctS (aS A) 0)))
    rw [z2']; exact f11
  · have hk' : k < sN (rmK (lfA A) (sN (aS A)) (ctS (aS A) 0)) := hk
    rw [zn] at hk'
    obtain ⟨t, y1, y2, y3⟩ := cntN_ex _ _ hk'
    have e := z5 t y1 y2
    rw [y3] at e
    show gI _ (m + (18 + k)) y = nI (sT (rmK (lfA A) (sN (aS A)) (ctS (aS A) 0)) k y)
    rw [e, q6.i (fun z => by omega), q5.i (fun z => by omega), ← y3]
    exact a2 t y1 y2 y hy
  · have hc' : c < sM (rmK (lfA A) (sN (aS A)) (ctS (aS A) 0)) := hc
    rw [z2'] at hc'
    exact absurd hc' (Nat.not_lt_zero c)
  · show gI _ (m + 51) k = nI (sA (rmK (lfA A) (sN (aS A)) (ctS (aS A) 0)) k)
    rw [z4]
    exact (q36.i (fun z => by omega)).trans (hP3.2.2.2.2 k hk)
end
