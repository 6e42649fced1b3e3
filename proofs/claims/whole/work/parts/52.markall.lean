/-! MARKED: all things get their best marks, on both sides -/
def bmN (π : PR) (s : SG) (t : Nat) : Nat := (bfN (fun v => gaI (sgT s t 5 v) π) 0 99).1
def mkP (π : PR) (s : SG) : Nat → SG × Bool
  | 0 => (s, false)
  | t + 1 => (sgT (mkP π s t).1 t 5 (bmN π (mkP π s t).1 t), (mkP π s t).2 || decide (bmN π (mkP π s t).1 t ≠ sT (mkP π s t).1 t 5))
def mkR (π : PR) (s : SG) : Nat → SG × Bool
  | 0 => (s, true)
  | k + 1 => if (mkR π s k).2 = true then mkP π (mkR π s k).1 (sN s) else mkR π s k
def mkA (π : PR) (s : SG) : SG := (mkR π s 9).1
theorem bmN_le (π : PR) (s : SG) (t : Nat) : bmN π s t ≤ 99 := by
  have := bfN_le (fun v => gaI (sgT s t 5 v) π) 0 99
  unfold bmN
  omega
theorem mkP_ok {π : PR} {s : SG} (hO : SOk s) : ∀ t : Nat, SOk (mkP π s t).1 ∧ sN (mkP π s t).1 = sN s ∧ sM (mkP π s t).1 = sM s
  | 0 => ⟨hO, rfl, rfl⟩
  | t + 1 => ⟨(mkP_ok hO t).1.set (Or.inl ⟨rfl, rfl⟩) (bmN_le _ _ _), (mkP_ok hO t).2.1, (mkP_ok hO t).2.2⟩
theorem mkR_ok {π : PR} {s : SG} (hO : SOk s) : ∀ k : Nat, SOk (mkR π s k).1 ∧ sN (mkR π s k).1 = sN s ∧ sM (mkR π s k).1 = sM s
  | 0 => ⟨hO, rfl, rfl⟩
  | k + 1 => by
    have ih := mkR_ok (π := π) hO k
    unfold mkR
    split
    · have h2 := mkP_ok (π := π) ih.1 (sN s)
      exact ⟨h2.1, h2.2.1.trans ih.2.1, h2.2.2.trans ih.2.2⟩
    · exact ih
theorem mkR_stop {π : PR} {s : SG} {k : Nat} (h : (mkR π s k).2 = false) : ∀ j : Nat, mkR π s (k + j) = mkR π s k
  | 0 => rfl
  | j + 1 => by
    show (if (mkR π s (k + j)).2 = true then _ else mkR π s (k + j)) = _
    rw [mkR_stop h j, if_neg (by rw [h]; decide)]
theorem z2_ior (b c : Bool) : z2 b ||| z2 c = z2 (b || c) := by cases b <;> cases c <;> decide
theorem z2_i1 (b : Bool) : z2 b ||| 1 = 1 := by cases b <;> decide
theorem z2_i0 (b : Bool) : z2 b ||| 0 = z2 b := by cases b <;> decide
def MKW (m : Nat) (x j : Nat) : Prop := DW m x j ∨ (m + 18 ≤ x ∧ x < m + 26)
section
variable {m : Nat} {s : SG} {π : PR} {h h1 : Hp} {K : Option Value → Hp → Prop}
theorem MSh.kw (hM : MSh m h) (q : Fr (MKW m) h h1) : MSh m h1 := hM.fr q (fun a j z => by
  unfold MKW DW at z
  refine ⟨by omega, fun w => ?_⟩
  have h39 : j = 39 := by omega
  rw [h39] at w
  exact absurd w.2 (by decide))
theorem PP.kw (hp : PP m π h) (q : Fr (MKW m) h h1) : PP m π h1 := hp.fr q (fun j h1 h2 z => by unfold MKW DW at z; omega)
theorem c203_i (hM : MSh m h) (hO : SOk s) (hp : ∀ s', sN s' = sN s → POk s' π) (hpp : PP m π h) {v2 : Value}
    (kk : ∀ (h2 : Hp) (v4 : Value), Fr (MKW m) h h2 → MP m (mkP π s (sN s)).1 h2 → V 203 73 [.ref m, .int (z2 (mkP π s (sN s)).2), v2, .int (nI (sN s)), v4] [] h2 K) :
    ∀ (j t : Nat) (h1 : Hp) (v4 : Value), t + j = sN s → Fr (MKW m) h h1 → MP m (mkP π s t).1 h1 → V 203 18 [.ref m, .int (z2 (mkP π s t).2), v2, .int (nI t), v4] [] h1 K := by
  have hn8 := hO.1
  intro j
  induction j with
  | zero =>
    intro t h1 v4 hi hf hP1
    have e : t = sN s := by omega
    subst e
    have hM1 := hM.kw hf
    have e9 := hP1.1
    rw [(mkP_ok hO (sN s)).2.1] at e9
    have e8 : (nI (sN s) ≤ nI (sN s)) = True := eq_true (nI_le (Nat.le_refl _) (by omega))
    simp only [v203_18, v203_19, v203_20, v203_23, hM1.k0, e9, e8, reduceIte, true_and]
    exact kk h1 _ hf hP1
  | succ j ih =>
    intro t h1 v4 hi hf hP1
    have ht : t < sN s := by omega
    have ht8 : t < 8 := by omega
    have hM1 := hM.kw hf
    obtain ⟨o1, o2, o3⟩ := mkP_ok (π := π) hO t
    have e9 := hP1.1
    rw [o2] at e9
    have lt : (nI (sN s) ≤ nI t) = False := eq_false (nI_ge ht (by omega))
    simp only [v203_18, v203_19, v203_20, v203_23, v203_26, v203_27, v203_28, v203_29, v203_31, hM1.k0, e9, lt, reduceIte, true_and]
    refine c196 (s := (mkP π s t).1) (k := 5) (most := 99) hM1 hP1 o1 (hp _ o2) (hpp.kw hf) (by omega) (Or.inl ⟨rfl, rfl⟩) (fun h2 q2 hP2 => ?_)
    have q3 : Fr (MKW m) h h2 := hf.tr (q2.mo (fun x j z => z.elim Or.inl (fun z => Or.inr (by omega))))
    have hM2 := hM.kw q3
    obtain ⟨t1, t2, t3⟩ := hM2.th ht8
    have c1 : (nI t).toNatClampNeg = t := nIc (by omega)
    have i1 : inb (nI t) 8 = True := nIb ht8 (by omega)
    have e5 := hP2.t (t := t) (by omega) (k := 5) (by omega)
    have b5 := (o1.2.2.1 t (by omega)).2.2.2.2.2.2.2.1
    have bl := bmN_le π (mkP π s t).1 t
    have hP3 := hP2.set o1 (t := t) (k := 5) (v := bmN π (mkP π s t).1 t) (by omega)
    have hS : (mkP π s (t + 1)).1 = sgT (mkP π s t).1 t 5 (bmN π (mkP π s t).1 t) := rfl
    have hB : (mkP π s (t + 1)).2 = ((mkP π s t).2 || decide (bmN π (mkP π s t).1 t ≠ sT (mkP π s t).1 t 5)) := rfl
    have go := fun v4 : Value => ih (t + 1) _ v4 (by omega) (q3.pI (Or.inr ⟨by omega, by omega⟩)) (hS ▸ hP3)
    rw [hB] at go
    show V 203 34 _ (pu (some (.int (nI (bmN π (mkP π s t).1 t)))) []) h2 K
    have le : (nI (bmN π (mkP π s t).1 t) = nI (sT (mkP π s t).1 t 5)) = (bmN π (mkP π s t).1 t = sT (mkP π s t).1 t 5) := neqN (by omega) (by omega)
    have n5 : ((5 : Int32)).toNatClampNeg = 5 := tc5
    by_cases g : bmN π (mkP π s t).1 t = sT (mkP π s t).1 t 5
    · rw [decide_eq_false (fun z => z g), Bool.or_false] at go
      simp only [pu_s, v203_0, v203_1, v203_2, v203_3, v203_5, v203_7, v203_10, v203_11, v203_14, v203_15, v203_16, v203_17, v203_19, v203_20, v203_23, v203_26, v203_27, v203_28, v203_29, v203_31, v203_34, v203_36, v203_37, v203_39, v203_40, v203_43, v203_44, v203_45, v203_46, v203_47, v203_50, v203_51, v203_54, v203_55, v203_56, v203_57, v203_58, v203_61, v203_62, v203_63, v203_64, v203_66, v203_67, v203_73, v203_76, v203_79, hM2.k0, hM2.f10, hM2.k17, hM2.n17, vrf_s, t1, t2, t3, c1, i1, ib7_0, ib7_1, ib7_2, ib7_3, ib7_4, ib7_5, ib7_6, ib3_0, ib3_1, ib3_2, ib4_0, ib4_1, ib4_2, ib4_3, tc0, tc1, tc2, tc3, tc4, tc5, tc6, e5, le, g, reduceIte, z2_i0, true_and, true_or, or_true, and_self, nI_1]
      rw [v203_70]
      rw [g] at go
      exact go _
    · rw [decide_eq_true g, Bool.or_true, z2_t] at go
      simp only [pu_s, v203_0, v203_1, v203_2, v203_3, v203_5, v203_7, v203_10, v203_11, v203_14, v203_15, v203_16, v203_17, v203_19, v203_20, v203_23, v203_26, v203_27, v203_28, v203_29, v203_31, v203_34, v203_36, v203_37, v203_39, v203_40, v203_43, v203_44, v203_45, v203_46, v203_47, v203_50, v203_51, v203_54, v203_55, v203_56, v203_57, v203_58, v203_61, v203_62, v203_63, v203_64, v203_66, v203_67, v203_73, v203_76, v203_79, hM2.k0, hM2.f10, hM2.k17, hM2.n17, vrf_s, t1, t2, t3, c1, i1, ib7_0, ib7_1, ib7_2, ib7_3, ib7_4, ib7_5, ib7_6, ib3_0, ib3_1, ib3_2, ib4_0, ib4_1, ib4_2, ib4_3, tc0, tc1, tc2, tc3, tc4, tc5, tc6, e5, le, g, reduceIte, z2_i1, true_and, true_or, or_true, and_self, nI_1]
      rw [v203_70]
      exact go _
theorem c203_o (hM : MSh m h) (hO : SOk s) (hp : ∀ s', sN s' = sN s → POk s' π) (hpp : PP m π h) (kk : ∀ h2 : Hp, Fr (MKW m) h h2 → MP m (mkA π s) h2 → K none h2) :
    ∀ (j k : Nat) (h1 : Hp) (v3 v4 : Value), k + j = 9 → Fr (MKW m) h h1 → MP m (mkR π s k).1 h1 → V 203 4 [.ref m, .int (z2 (mkR π s k).2), .int (nI k), v3, v4] [] h1 K := by
  have hn8 := hO.1
  intro j
  induction j with
  | zero =>
    intro k h1 v3 v4 hi hf hP1
    have e : k = 9 := by omega
    subst e
    have e8 : ((9 : Int32) ≤ nI 9) = True := eq_true (by decide)
    simp only [v203_4, v203_5, v203_7, v203_79, e8, reduceIte]
    exact kk h1 hf hP1
  | succ j ih =>
    intro k h1 v3 v4 hi hf hP1
    have e8 : ((9 : Int32) ≤ nI k) = False := eq_false (nI_ge (b := 9) (by omega) (by decide))
    cases hc : (mkR π s k).2 with
    | false =>
      simp only [v203_4, v203_5, v203_7, v203_10, v203_11, v203_79, e8, z2_f, reduceIte]
      have := mkR_stop hc (9 - k)
      rw [show k + (9 - k) = 9 by omega] at this
      refine kk h1 hf ?_
      unfold mkA
      rw [this]
      exact hP1
    | true =>
      have hR : mkR π s (k + 1) = mkP π (mkR π s k).1 (sN s) := by
        show (if (mkR π s k).2 = true then _ else _) = _
        rw [if_pos hc]
      obtain ⟨o1, o2, o3⟩ := mkR_ok (π := π) hO k
      simp only [v203_4, v203_5, v203_7, v203_10, v203_11, v203_14, v203_15, v203_16, v203_17, e8, z2_t, i10, reduceIte]
      refine c203_i (s := (mkR π s k).1) (hM.kw hf) o1 (fun s' h => hp s' (h.trans o2)) (hpp.kw hf) (fun h2 v4 q2 hP2 => ?_) (sN (mkR π s k).1) 0 h1 _ (Nat.zero_add _) Fr.rf hP1
      rw [o2] at hP2 ⊢
      simp only [v203_73, nI_1]
      rw [v203_76]
      rw [← hR] at hP2 ⊢
      exact ih (k + 1) h2 _ _ (by omega) (hf.tr q2) hP2
/-- the reference's markAll -/
theorem c203 (hM : MSh m h) (hP : MP m s h) (hO : SOk s) (hp : ∀ s', sN s' = sN s → POk s' π) (hpp : PP m π h) (kk : ∀ h2 : Hp, Fr (MKW m) h h2 → MP m (mkA π s) h2 → K none h2) : AM 203 [.ref m] h K := by
  simp only [e203, v203_0, v203_1, v203_2, v203_3]
  exact c203_o hM hO hp hpp kk 9 0 h _ _ rfl Fr.rf hP
end
section
variable {r a o : Nat} {ρ β : Nat → Nat} {s : SG} {π : PR} {h h1 : Hp} {K : Option Value → Hp → Prop}
theorem c52_i (hO : SOk s) (hp : ∀ s', sN s' = sN s → POk s' π) (hc : PCl π) (hf0 : pOff π = none) {v2 : Value}
    (kk : ∀ (h2 : Hp) (v4 : Value), Fr (TW a o) h h2 → TP r a o ρ β (mkP π s (sN s)).1 π h2 → V 52 73 [.ref r, .int (z2 (mkP π s (sN s)).2), v2, .int (nI (sN s)), v4] [] h2 K) :
    ∀ (j t : Nat) (h1 : Hp) (v4 : Value), t + j = sN s → Fr (TW a o) h h1 → TP r a o ρ β (mkP π s t).1 π h1 → V 52 18 [.ref r, .int (z2 (mkP π s t).2), v2, .int (nI t), v4] [] h1 K := by
  have hn8 := hO.1
  intro j
  induction j with
  | zero =>
    intro t h1 v4 hi hf hP1
    have e : t = sN s := by omega
    subst e
    obtain ⟨⟨t1, t2, t3, t4, hQ, t6, t7⟩, hV, -⟩ := id hP1
    have s1 := hQ.1
    have e9 := hV.1
    rw [(mkP_ok hO (sN s)).2.1] at e9
    have e8 : (nI (sN s) ≤ nI (sN s)) = True := eq_true (nI_le (Nat.le_refl _) (by omega))
    simp only [v52_18, v52_19, v52_20, v52_23, v52_26, t1, t2, s1, vrf_s, e9, e8, reduceIte, true_and]
    exact kk h1 _ hf hP1
  | succ j ih =>
    intro t h1 v4 hi hf hP1
    have ht : t < sN s := by omega
    have ht8 : t < 8 := by omega
    obtain ⟨⟨t1, t2, t3, t4, hQ, t6, t7⟩, hV, -⟩ := id hP1
    have s1 := hQ.1
    obtain ⟨o1, o2, o3⟩ := mkP_ok (π := π) hO t
    have e9 := hV.1
    rw [o2] at e9
    have lt : (nI (sN s) ≤ nI t) = False := eq_false (nI_ge ht (by omega))
    simp only [v52_18, v52_19, v52_20, v52_23, v52_26, v52_29, v52_30, v52_31, t1, t2, s1, vrf_s, e9, lt, reduceIte, true_and]
    refine c50 (s := (mkP π s t).1) hP1 o1 (hp _ o2) hc hf0 (by omega) (fun h2 q2 hP2 => ?_)
    have q3 : Fr (TW a o) h h2 := hf.tr q2
    obtain ⟨⟨t1, t2, t3, t4, hQ, t6, t7⟩, hV, -⟩ := id hP2
    obtain ⟨s1, s2, s3, s4, s5, s6, s7, s8, s9, s10, -⟩ := id hQ
    obtain ⟨u1, u2, u3, u4, u5⟩ := hQ.th ht8
    have c1 : (nI t).toNatClampNeg = t := nIc (by omega)
    have i1 : inb (nI t) 8 = True := nIb ht8 (by omega)
    have e5 := hV.t (t := t) (by omega) (k := 5) (by omega)
    have b5 := (o1.2.2.1 t (by omega)).2.2.2.2.2.2.2.1
    have bl := bmN_le π (mkP π s t).1 t
    have hP3 := hP2.set o1 (t := t) (k := 5) (v := bmN π (mkP π s t).1 t) (by omega) (Or.inl rfl)
    have hS : (mkP π s (t + 1)).1 = sgT (mkP π s t).1 t 5 (bmN π (mkP π s t).1 t) := rfl
    have hB : (mkP π s (t + 1)).2 = ((mkP π s t).2 || decide (bmN π (mkP π s t).1 t ≠ sT (mkP π s t).1 t 5)) := rfl
    show V 52 34 _ (pu (some (.int (nI (bmN π (mkP π s t).1 t)))) []) h2 K
    have le : (nI (bmN π (mkP π s t).1 t) = nI (sT (mkP π s t).1 t 5)) = (bmN π (mkP π s t).1 t = sT (mkP π s t).1 t 5) := neqN (by omega) (by omega)
    by_cases g : bmN π (mkP π s t).1 t = sT (mkP π s t).1 t 5
    · have go := fun v4 : Value => ih (t + 1) h2 v4 (by omega) q3 (by rw [hS, g, sgT_0]; exact hP2)
      rw [hB, decide_eq_false (fun z => z g), Bool.or_false] at go
      simp only [pu_s, v52_0, v52_1, v52_2, v52_3, v52_5, v52_7, v52_10, v52_11, v52_14, v52_15, v52_16, v52_17, v52_19, v52_20, v52_23, v52_26, v52_29, v52_30, v52_31, v52_34, v52_36, v52_38, v52_39, v52_42, v52_45, v52_46, v52_47, v52_48, v52_49, v52_52, v52_53, v52_56, v52_59, v52_60, v52_61, v52_62, v52_64, v52_65, v52_66, v52_67, v52_73, v52_76, v52_79, t1, t2, s1, s2, s5, s6, vrf_s, u1, u2, u3, c1, i1, ib7_0, ib7_1, ib7_2, ib7_3, ib7_4, ib7_5, ib7_6, ib3_0, ib3_1, ib3_2, ib4_0, ib4_1, ib4_2, ib4_3, tc0, tc1, tc2, tc3, tc4, tc5, tc6, e5, le, g, reduceIte, true_and, true_or, or_true, and_self, nI_1]
      rw [v52_70]
      exact go _
    · have go := fun v4 : Value => ih (t + 1) _ v4 (by omega) (q3.pI (Or.inl ⟨by omega, by omega⟩)) (hS ▸ hP3)
      rw [hB, decide_eq_true g, Bool.or_true, z2_t] at go
      simp only [pu_s, v52_0, v52_1, v52_2, v52_3, v52_5, v52_7, v52_10, v52_11, v52_14, v52_15, v52_16, v52_17, v52_19, v52_20, v52_23, v52_26, v52_29, v52_30, v52_31, v52_34, v52_36, v52_38, v52_39, v52_42, v52_45, v52_46, v52_47, v52_48, v52_49, v52_52, v52_53, v52_56, v52_59, v52_60, v52_61, v52_62, v52_64, v52_65, v52_66, v52_67, v52_73, v52_76, v52_79, t1, t2, s1, s2, s5, s6, vrf_s, u1, u2, u3, c1, i1, ib7_0, ib7_1, ib7_2, ib7_3, ib7_4, ib7_5, ib7_6, ib3_0, ib3_1, ib3_2, ib4_0, ib4_1, ib4_2, ib4_3, tc0, tc1, tc2, tc3, tc4, tc5, tc6, e5, le, g, reduceIte, true_and, true_or, or_true, and_self, nI_1]
      rw [v52_70]
      exact go _
theorem c52_o (hO : SOk s) (hp : ∀ s', sN s' = sN s → POk s' π) (hc : PCl π) (hf0 : pOff π = none) (kk : ∀ h2 : Hp, Fr (TW a o) h h2 → TP r a o ρ β (mkA π s) π h2 → K none h2) :
    ∀ (j k : Nat) (h1 : Hp) (v3 v4 : Value), k + j = 9 → Fr (TW a o) h h1 → TP r a o ρ β (mkR π s k).1 π h1 → V 52 4 [.ref r, .int (z2 (mkR π s k).2), .int (nI k), v3, v4] [] h1 K := by
  have hn8 := hO.1
  intro j
  induction j with
  | zero =>
    intro k h1 v3 v4 hi hf hP1
    have e : k = 9 := by omega
    subst e
    have e8 : ((9 : Int32) ≤ nI 9) = True := eq_true (by decide)
    simp only [v52_4, v52_5, v52_7, v52_79, e8, reduceIte]
    exact kk h1 hf hP1
  | succ j ih =>
    intro k h1 v3 v4 hi hf hP1
    have e8 : ((9 : Int32) ≤ nI k) = False := eq_false (nI_ge (b := 9) (by omega) (by decide))
    cases hcc : (mkR π s k).2 with
    | false =>
      simp only [v52_4, v52_5, v52_7, v52_10, v52_11, v52_79, e8, z2_f, reduceIte]
      have := mkR_stop hcc (9 - k)
      rw [show k + (9 - k) = 9 by omega] at this
      refine kk h1 hf ?_
      unfold mkA
      rw [this]
      exact hP1
    | true =>
      have hR : mkR π s (k + 1) = mkP π (mkR π s k).1 (sN s) := by
        show (if (mkR π s k).2 = true then _ else _) = _
        rw [if_pos hcc]
      obtain ⟨o1, o2, o3⟩ := mkR_ok (π := π) hO k
      simp only [v52_4, v52_5, v52_7, v52_10, v52_11, v52_14, v52_15, v52_16, v52_17, e8, z2_t, i10, reduceIte]
      refine c52_i (s := (mkR π s k).1) o1 (fun s' h => hp s' (h.trans o2)) hc hf0 (fun h2 v4 q2 hP2 => ?_) (sN (mkR π s k).1) 0 h1 _ (Nat.zero_add _) Fr.rf hP1
      rw [o2] at hP2 ⊢
      simp only [v52_73, nI_1]
      rw [v52_76]
      rw [← hR] at hP2 ⊢
      exact ih (k + 1) h2 _ _ (by omega) (hf.tr q2) hP2
/-- the class's markAll -/
theorem c52 (hP : TP r a o ρ β s π h) (hO : SOk s) (hp : ∀ s', sN s' = sN s → POk s' π) (hc : PCl π) (hf0 : pOff π = none) (kk : ∀ h2 : Hp, Fr (TW a o) h h2 → TP r a o ρ β (mkA π s) π h2 → K none h2) : AM 52 [.ref r] h K := by
  simp only [e52, v52_0, v52_1, v52_2, v52_3]
  exact c52_o hO hp hc hf0 kk 9 0 h _ _ rfl Fr.rf hP
end
