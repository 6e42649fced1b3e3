/-! THE CLASS: a stall becomes another -/
def FI (F : Nat → Nat → Prop) (h h' : Hp) : Prop := Fr F h h' ∧ gR h' = gR h
section
variable {F G : Nat → Nat → Prop} {h h1 h2 : Hp} {x u : Nat}
theorem FI.rf : FI F h h := ⟨Fr.rf, rfl⟩
theorem FI.tr (q1 : FI F h h1) (q2 : FI F h1 h2) : FI F h h2 := ⟨q1.1.tr q2.1, q2.2.trans q1.2⟩
theorem FI.mo (q : FI F h h1) (hF : ∀ x j, F x j → G x j) : FI G h h1 := ⟨q.1.mo hF, q.2⟩
theorem FI.pI {v : Int32} (q : FI F h h1) (ha : F x u) : FI F h (pI h1 x u v) := ⟨q.1.pI ha, q.2⟩
theorem FI.cpI {y sp dp n : Nat} (q : FI F h h1) (ha : ∀ j, dp ≤ j → j < dp + n → F x j) : FI F h (cpI h1 y sp x dp n) := ⟨q.1.cpI ha, q.2⟩
theorem FI.i (q : FI F h h1) (hn : ¬ F x u) : gI h1 x u = gI h x u := q.1.i hn
theorem SQ.fi {a : Nat} {ρ β : Nat → Nat} (hQ : SQ a ρ β h) (q : FI F h h1) : SQ a ρ β h1 := by
  obtain ⟨⟨k1, n1, -⟩, r1⟩ := q
  unfold SQ
  rw [k1, n1, r1]
  exact hQ
end
def BW (a : Nat) (x _ : Nat) : Prop := a ≤ x ∧ x < a + 36
theorem cpA_0 {h : Hp} {A C : Nat} {k : Int32} {n : Nat} (hk : ¬ k < 0) (hn : k.toNatClampNeg = n) (hA : n ≤ gN h A) (hC : n ≤ gN h C) : cpA h A C 0 0 k := by
  refine ⟨by decide, by decide, hk, ?_, ?_⟩
  · rw [tc0, hn]; omega
  · rw [tc0, hn]; omega
section
variable {a c : Nat} {ρ β ρ' β' : Nat → Nat} {s : SG} {h h1 : Hp} {K : Option Value → Hp → Prop}
theorem c20_t (hne : c + 36 ≤ a ∨ a + 36 ≤ c) (hQ : SQ a ρ β h) (hQ' : SQ c ρ' β' h) (hP : SV c ρ' β' s h) (hO : SOk s)
    (kk : ∀ h2, FI (BW a) h h2 → gI h2 a 1 = nI (sN s) → (∀ t, t < sN s → ∀ k, k < 7 → gI h2 (ρ t) k = nI (sT s t k)) → ∀ v2 : Value, V 20 43 [.ref a, .ref c, v2] [] h2 K) :
    ∀ (j i : Nat) (h1 : Hp), i + j = sN s → FI (BW a) h h1 → gI h1 a 1 = nI (sN s) → (∀ t, t < i → ∀ k, k < 7 → gI h1 (ρ t) k = nI (sT s t k)) → V 20 10 [.ref a, .ref c, .int (nI i)] [] h1 K := by
  have hn8 := hO.1
  intro j
  induction j with
  | zero =>
    intro i h1 hi hf e1 hT
    have e : i = sN s := by omega
    subst e
    have s1 := (hQ.fi hf).1
    have e8 : (nI (sN s) ≤ nI (sN s)) = True := eq_true (nI_le (Nat.le_refl _) (by omega))
    simp only [v20_10, v20_11, v20_12, v20_15, s1, e1, e8, reduceIte, true_and]
    exact kk h1 hf e1 hT _
  | succ j ih =>
    intro i h1 hi hf e1 hT
    have ht : i < sN s := by omega
    have hQ1 := hQ.fi hf
    have hQ1' := hQ'.fi hf
    obtain ⟨s1, s2, s3, s4, s5, s6, s7, s8, s9, s10, -, -, sI, -⟩ := id hQ1
    obtain ⟨r1, r2, r3, r4, r5, r6, r7, r8, r9, r10, -⟩ := id hQ1'
    obtain ⟨t1, t2, t3, t4, t5⟩ := hQ1.th (show i < 8 by omega)
    obtain ⟨u1, u2, u3, u4, u5⟩ := hQ1'.th (show i < 8 by omega)
    have lt : (nI (sN s) ≤ nI i) = False := eq_false (nI_ge ht (by omega))
    have c1 : (nI i).toNatClampNeg = i := nIc (by omega)
    have i1 : inb (nI i) 8 = True := nIb (by omega) (by omega)
    simp only [v20_10, v20_11, v20_12, v20_15, v20_18, v20_19, v20_22, v20_23, v20_24, v20_25, v20_26, v20_29, v20_30, v20_31, v20_32, s1, s2, s5, s6, r1, r2, r5, r6, t1, u1, vrf_s, e1, lt, c1, i1, reduceIte, true_and, true_or, or_true, and_self]
    rw [v20_34 _ _ _ _ _ _ _ _ u2 t2 (cpA_0 (n := 7) (by decide) tc7 (by omega) (by omega))]
    simp only [tc0, tc7, v20_37, nI_1]
    rw [v20_40]
    refine ih (i + 1) _ (by omega) (hf.cpI (fun j h1 h2 => ⟨by omega, by omega⟩)) ?_ (fun t ht k hk => ?_)
    · rw [gI_cpI, if_neg (by omega)]; exact e1
    · by_cases e : t = i
      · subst e
        rw [gI_cpI, if_pos ⟨rfl, by omega, by omega⟩, Nat.sub_zero, Nat.zero_add]
        exact (hf.i (fun z => by unfold BW at z; omega)).trans (hP.t (by omega) hk)
      · rw [gI_cpI, if_neg (fun z => e (sI t i (by omega) (by omega) z.1))]
        exact hT t (by omega) k hk
theorem c20_b (hne : c + 36 ≤ a ∨ a + 36 ≤ c) (hQ : SQ a ρ β h) (hQ' : SQ c ρ' β' h) (hP : SV c ρ' β' s h) (hO : SOk s)
    (kk : ∀ h2, FI (BW a) h h2 → gI h2 a 1 = nI (sN s) → (∀ t, t < sN s → ∀ k, k < 7 → gI h2 (ρ t) k = nI (sT s t k)) → gI h2 a 3 = nI (sM s) → (∀ b, b < sM s → ∀ k, k < 3 → gI h2 (β b) k = nI (sB s b k)) → ∀ v2 : Value, V 20 85 [.ref a, .ref c, v2] [] h2 K) :
    ∀ (j i : Nat) (h1 : Hp), i + j = sM s → FI (BW a) h h1 → gI h1 a 1 = nI (sN s) → (∀ t, t < sN s → ∀ k, k < 7 → gI h1 (ρ t) k = nI (sT s t k)) → gI h1 a 3 = nI (sM s) → (∀ b, b < i → ∀ k, k < 3 → gI h1 (β b) k = nI (sB s b k)) → V 20 53 [.ref a, .ref c, .int (nI i)] [] h1 K := by
  have hn8 := hO.1
  have hm24 := hO.2.1
  intro j
  induction j with
  | zero =>
    intro i h1 hi hf e1 hT e3 hB
    have e : i = sM s := by omega
    subst e
    have s1 := (hQ.fi hf).1
    have e8 : (nI (sM s) ≤ nI (sM s)) = True := eq_true (nI_le (Nat.le_refl _) (by omega))
    simp only [v20_53, v20_54, v20_55, v20_58, s1, e3, e8, reduceIte, true_and]
    exact kk h1 hf e1 hT e3 hB _
  | succ j ih =>
    intro i h1 hi hf e1 hT e3 hB
    have hb : i < sM s := by omega
    have hQ1 := hQ.fi hf
    have hQ1' := hQ'.fi hf
    obtain ⟨s1, s2, s3, s4, s5, s6, s7, s8, s9, s10, -, -, -, sI⟩ := id hQ1
    obtain ⟨r1, r2, r3, r4, r5, r6, r7, r8, r9, r10, -⟩ := id hQ1'
    obtain ⟨t1, t2, t3, t4, t5⟩ := hQ1.by (show i < 24 by omega)
    obtain ⟨u1, u2, u3, u4, u5⟩ := hQ1'.by (show i < 24 by omega)
    have lt : (nI (sM s) ≤ nI i) = False := eq_false (nI_ge hb (by omega))
    have c1 : (nI i).toNatClampNeg = i := nIc (by omega)
    have i1 : inb (nI i) 24 = True := nIb (by omega) (by omega)
    simp only [v20_53, v20_54, v20_55, v20_58, v20_61, v20_62, v20_65, v20_66, v20_67, v20_68, v20_69, v20_72, v20_73, v20_74, v20_75, s1, s3, s7, s8, r1, r3, r7, r8, t1, u1, vrf_s, e3, lt, c1, i1, reduceIte, true_and, true_or, or_true, and_self]
    rw [v20_76 _ _ _ _ _ _ _ _ u2 t2 (cpA_0 (n := 3) (by decide) tc3 (by omega) (by omega))]
    simp only [tc0, tc3, v20_79, nI_1]
    rw [v20_82]
    refine ih (i + 1) _ (by omega) (hf.cpI (fun j h1 h2 => ⟨by omega, by omega⟩)) ?_ (fun t ht k hk => ?_) ?_ (fun b hb k hk => ?_)
    · rw [gI_cpI, if_neg (by omega)]; exact e1
    · obtain ⟨-, -, -, t6, t7⟩ := hQ1.th (show t < 8 by omega)
      rw [gI_cpI, if_neg (by omega)]; exact hT t ht k hk
    · rw [gI_cpI, if_neg (by omega)]; exact e3
    · by_cases e : b = i
      · subst e
        rw [gI_cpI, if_pos ⟨rfl, by omega, by omega⟩, Nat.sub_zero, Nat.zero_add]
        exact (hf.i (fun z => by unfold BW at z; omega)).trans (hP.b (by omega) hk)
      · rw [gI_cpI, if_neg (fun z => e (sI b i (by omega) (by omega) z.1))]
        exact hB b (by omega) k hk
/-- become -/
theorem c20 (hne : c + 36 ≤ a ∨ a + 36 ≤ c) (hQ : SQ a ρ β h) (hQ' : SQ c ρ' β' h) (hP : SV c ρ' β' s h) (hO : SOk s)
    (kk : ∀ h2, FI (BW a) h h2 → SV a ρ β s h2 → gI h2 a 5 = gI h c 5 → gI h2 a 6 = gI h c 6 → gI h2 a 7 = gI h c 7 → K none h2) : AM 20 [.ref a, .ref c] h K := by
  obtain ⟨s1, s2, s3, s4, s5, s6, s7, s8, s9, s10, -⟩ := id hQ
  have r1 := hQ'.1
  simp only [e20, v20_0, v20_1, v20_2, v20_5, v20_8, v20_9, s1, r1, hP.1, true_and]
  have q1 : FI (BW a) h (pI h a 1 (nI (sN s))) := FI.rf.pI ⟨by omega, by omega⟩
  refine c20_t hne (hQ.fi q1) (hQ'.fi q1) (SV.fr hQ' hP hO q1.1 (fun u j z => by unfold BW at z; omega)) hO (fun h2 q2 e1 hT v2 => ?_) (sN s) 0 _ (Nat.zero_add _) FI.rf (gI_at _ _ _ _) (fun t ht => absurd ht (Nat.not_lt_zero t))
  have q12 := q1.tr q2
  have s1 := (hQ.fi q12).1
  have r1 := (hQ'.fi q12).1
  have hP2 : SV c ρ' β' s h2 := SV.fr hQ' hP hO q12.1 (fun u j z => by unfold BW at z; omega)
  simp only [v20_43, v20_44, v20_45, v20_48, v20_51, v20_52, s1, r1, hP2.2.1, true_and]
  have q3 : FI (BW a) h2 (pI h2 a 3 (nI (sM s))) := FI.rf.pI ⟨by omega, by omega⟩
  have q13 := q12.tr q3
  have hT3 : ∀ t, t < sN s → ∀ k, k < 7 → gI (pI h2 a 3 (nI (sM s))) (ρ t) k = nI (sT s t k) := fun t ht k hk => by
    obtain ⟨-, -, -, t6, t7⟩ := hQ.th (Nat.lt_of_lt_of_le ht hO.1)
    rw [gI_ne (by omega)]
    exact hT t ht k hk
  refine c20_b hne (hQ.fi q13) (hQ'.fi q13) (SV.fr hQ' hP hO q13.1 (fun u j z => by unfold BW at z; omega)) hO (fun h4 q4 e1 hT e3 hB v2 => ?_) (sM s) 0 _ (Nat.zero_add _) FI.rf (by rw [gI_ne (by omega)]; exact e1) hT3 (gI_at _ _ _ _) (fun t ht => absurd ht (Nat.not_lt_zero t))
  have q14 := q13.tr q4
  obtain ⟨s1, s2, s3, s4, s5, s6, s7, s8, s9, s10, -⟩ := id (hQ.fi q14)
  obtain ⟨r1, r2, r3, r4, r5, r6, r7, r8, r9, r10, -⟩ := id (hQ'.fi q14)
  have hP4 : SV c ρ' β' s h4 := SV.fr hQ' hP hO q14.1 (fun u j z => by unfold BW at z; omega)
  simp only [v20_85, v20_86, v20_89, v20_90, v20_91, v20_94, v20_95, s1, s4, r1, r4, vrf_s, true_and]
  rw [v20_96 _ _ _ _ _ _ _ _ r9 s9 (cpA_0 (n := 4) (by decide) tc4 (by omega) (by omega))]
  have n1 : ∀ k, gI (cpI h4 (c + 35) 0 (a + 35) 0 4) c k = gI h4 c k := fun k => by rw [gI_cpI, if_neg (by omega)]
  have n2 : ∀ (x : Int32) (k : Nat), gI (pI (cpI h4 (c + 35) 0 (a + 35) 0 4) a 5 x) c k = gI h4 c k := fun x k => by rw [gI_ne (by omega)]; exact n1 k
  have n3 : ∀ (x y : Int32) (k : Nat), gI (pI (pI (cpI h4 (c + 35) 0 (a + 35) 0 4) a 5 x) a 6 y) c k = gI h4 c k := fun x y k => by rw [gI_ne (by omega)]; exact n2 x k
  have c5 : ∀ k, gI h4 c k = gI h c k := fun k => q14.i (fun z => by unfold BW at z; omega)
  simp only [tc0, tc4, v20_99, v20_100, v20_101, v20_104, v20_107, v20_108, v20_109, v20_112, v20_115, v20_116, v20_117, v20_120, v20_123, gI_pJ, gI_pR, gJ_pI, gJ_pR, gR_pI, gR_pJ, gK_pI, gK_pJ, gK_pR, gN_pI, gN_pJ, gN_pR, gX_pI, gX_pJ, gX_pR, gS_pI, gS_pJ, gS_pR, gK_cpI, gN_cpI, gK_cpJ, gN_cpJ, gR_cpI, gR_cpJ, gJ_cpI, gI_cpJ, s1, r1, true_and, n1, n2, n3, c5]
  refine kk _ ((((q14.cpI (fun j h1 h2 => ⟨by omega, by omega⟩)).pI ⟨by omega, by omega⟩).pI ⟨by omega, by omega⟩).pI ⟨by omega, by omega⟩) ⟨?_, ?_, fun t ht k hk => ?_, fun b hb k hk => ?_, fun k hk => ?_⟩ ?_ ?_ (gI_at _ _ _ _)
  · rw [gI_ne (by omega), gI_ne (by omega), gI_ne (by omega), gI_cpI, if_neg (by omega)]; exact e1
  · rw [gI_ne (by omega), gI_ne (by omega), gI_ne (by omega), gI_cpI, if_neg (by omega)]; exact e3
  · obtain ⟨-, -, -, t6, t7⟩ := hQ.th (Nat.lt_of_lt_of_le ht hO.1)
    rw [gI_ne (by omega), gI_ne (by omega), gI_ne (by omega), gI_cpI, if_neg (by omega)]; exact hT t ht k hk
  · obtain ⟨-, -, -, t6, t7⟩ := hQ.by (Nat.lt_of_lt_of_le hb hO.2.1)
    rw [gI_ne (by omega), gI_ne (by omega), gI_ne (by omega), gI_cpI, if_neg (by omega)]; exact hB b hb k hk
  · rw [gI_ne (by omega), gI_ne (by omega), gI_ne (by omega), gI_cpI, if_pos ⟨rfl, by omega, by omega⟩, Nat.sub_zero, Nat.zero_add]
    exact hP4.aa hk
  · rw [gI_ne (by omega), gI_ne (by omega), gI_at]
  · rw [gI_ne (by omega), gI_at]
end
