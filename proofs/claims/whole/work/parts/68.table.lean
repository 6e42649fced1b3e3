/-! TABLE and MARKED, on both sides -/
theorem far2 : (-1000000 : Int32) + -2 = -1000002 := by decide
theorem far3 : (-1000000 : Int32) + -3 = -1000003 := by decide
theorem far4 : (-1000000 : Int32) + -4 = -1000004 := by decide
theorem far5 : (-1000000 : Int32) + -5 = -1000005 := by decide
def frB (c t : Nat) : Nat := if c.testBit t = true then 0 else 7
def fB (s : SG) (c j : Nat) : SG := (sN s, sM s, fun t k => if k = 6 ∧ t < j then frB c t else sT s t k, sB s, sA s)
theorem fB_0 (s : SG) (c : Nat) : fB s c 0 = s := by
  have e : (fun t k => if k = 6 ∧ t < 0 then frB c t else sT s t k) = sT s := by
    funext t k
    rw [if_neg (by omega)]
  show (sN s, sM s, _, sB s, sA s) = s
  rw [e]
  rfl
theorem fB_s (s : SG) (c j : Nat) : sgT (fB s c j) j 6 (frB c j) = fB s c (j + 1) := by
  have e : up (sT (fB s c j)) j (up (sT (fB s c j) j) 6 (frB c j)) = (fun t k => if k = 6 ∧ t < j + 1 then frB c t else sT s t k) := by
    funext t k
    have e2 : ∀ t k, sT (fB s c j) t k = if k = 6 ∧ t < j then frB c t else sT s t k := fun _ _ => rfl
    by_cases h1 : t = j
    · subst h1
      rw [up_at]
      by_cases h2 : k = 6
      · subst h2
        rw [up_at, if_pos ⟨rfl, by omega⟩]
      · rw [up_ne h2, e2, if_neg (fun z => h2 z.1), if_neg (fun z => h2 z.1)]
    · rw [up_ne h1, e2]
      by_cases h2 : k = 6 ∧ t < j
      · rw [if_pos h2, if_pos ⟨h2.1, by omega⟩]
      · rw [if_neg h2, if_neg (fun z => h2 ⟨z.1, by omega⟩)]
  show (sN s, sM s, up (sT (fB s c j)) j (up (sT (fB s c j) j) 6 (frB c j)), sB s, sA s) = _
  rw [e]
  rfl
theorem fB_2 (s : SG) (c d n : Nat) : fB (fB s c n) d n = fB s d n := by
  have e : (fun t k => if k = 6 ∧ t < n then frB d t else sT (fB s c n) t k) = (fun t k => if k = 6 ∧ t < n then frB d t else sT s t k) := by
    funext t k
    by_cases h : k = 6 ∧ t < n
    · rw [if_pos h, if_pos h]
    · rw [if_neg h, if_neg h]
      show (if k = 6 ∧ t < n then frB c t else sT s t k) = _
      rw [if_neg h]
  show (sN s, sM s, _, sB s, sA s) = _
  rw [e]
  rfl
theorem frB_le (c t : Nat) : frB c t ≤ 7 := by unfold frB; split <;> omega
theorem SOk.fB {s : SG} (hO : SOk s) (c : Nat) : ∀ j : Nat, SOk (fB s c j)
  | 0 => by rw [fB_0]; exact hO
  | j + 1 => by
    rw [← fB_s]
    exact (SOk.fB hO c j).set (Or.inr ⟨rfl, rfl⟩) (frB_le c j)
def tbG (s : SG) (v : Nat) : Int32 := gaI (fB s v (sN s)) p0
def tbA (s : SG) : Int32 := nI (bfN (tbG s) 0 (2 ^ sN s - 1)).1
def oMkd (A : XA) (t : Int32) : XA × Int32 := if t = -1 then (A, gaI (mkA p0 (aS A)) p0) else match thI (sN (aS A)) t with
  | none => rfI A 0 (-1000002)
  | some t => (A, nI (sT (mkA p0 (aS A)) t 5))
theorem p2b {n : Nat} (hn : n ≤ 8) : 2 ^ n ≤ 256 ∧ 1 ≤ 2 ^ n := by
  have : n = 0 ∨ n = 1 ∨ n = 2 ∨ n = 3 ∨ n = 4 ∨ n = 5 ∨ n = 6 ∨ n = 7 ∨ n = 8 := by omega
  rcases this with rfl | rfl | rfl | rfl | rfl | rfl | rfl | rfl | rfl <;> decide
section
variable {r a o : Nat} {ρ β : Nat → Nat} {s : SG} {h h1 : Hp} {K : Option Value → Hp → Prop}
theorem c51_i (hO : SOk s) {v : Nat} (v1 v2 : Value)
    (kk : ∀ h2 : Hp, Fr (TW a o) h h2 → TP r a o ρ β (fB s v (sN s)) p0 h2 → V 51 70 [.ref r, v1, v2, .int (nI v), .int (nI (sN s))] [] h2 K) :
    ∀ (j t : Nat) (h1 : Hp), t + j = sN s → Fr (TW a o) h h1 → TP r a o ρ β (fB s v t) p0 h1 → V 51 24 [.ref r, v1, v2, .int (nI v), .int (nI t)] [] h1 K := by
  have hn8 := hO.1
  intro j
  induction j with
  | zero =>
    intro t h1 hi hf hP1
    have e : t = sN s := by omega
    subst e
    obtain ⟨⟨t1, t2, t3, t4, hQ, t6, t7⟩, hV, -⟩ := id hP1
    have s1 := hQ.1
    have e9 : gI h1 a 1 = nI (sN s) := hV.1
    have e8 : (nI (sN s) ≤ nI (sN s)) = True := eq_true (nI_le (Nat.le_refl _) (by omega))
    simp only [v51_24, v51_26, v51_27, v51_30, v51_33, t1, t2, s1, vrf_s, e9, e8, reduceIte, true_and]
    exact kk h1 hf hP1
  | succ j ih =>
    intro t h1 hi hf hP1
    have ht : t < sN s := by omega
    obtain ⟨⟨t1, t2, t3, t4, hQ, t6, t7⟩, hV, -⟩ := id hP1
    obtain ⟨s1, s2, s3, s4, s5, s6, s7, s8, s9, s10, -⟩ := id hQ
    obtain ⟨u1, u2, u3, u4, u5⟩ := hQ.th (show t < 8 by omega)
    have e9 : gI h1 a 1 = nI (sN s) := hV.1
    have lt : (nI (sN s) ≤ nI t) = False := eq_false (nI_ge ht (by omega))
    have c1 : (nI t).toNatClampNeg = t := nIc (by omega)
    have i1 : inb (nI t) 8 = True := nIb (by omega) (by omega)
    have bi := bitI_N v t (by omega)
    have hP2 := hP1.set (hO.fB v t) (t := t) (k := 6) (v := frB v t) ht (Or.inr rfl)
    rw [fB_s] at hP2
    have go := ih (t + 1) _ (by omega) (hf.pI (Or.inl ⟨by omega, by omega⟩)) hP2
    cases hb : v.testBit t with
    | true =>
      have ef : nI (frB v t) = 0 := by unfold frB; rw [hb]; rfl
      rw [ef] at go
      simp only [v51_24, v51_26, v51_27, v51_30, v51_33, v51_36, v51_37, v51_40, v51_43, v51_45, v51_46, v51_48, v51_49, v51_51, v51_54, v51_57, v51_58, v51_63, v51_64, t1, t2, s1, s2, s5, s6, u1, u2, u3, vrf_s, e9, lt, c1, i1, c127, bi, hb, z2_t, i10, pu_s, ib7_0, ib7_1, ib7_2, ib7_3, ib7_4, ib7_5, ib7_6, ib3_0, ib3_1, ib3_2, ib4_0, ib4_1, ib4_2, ib4_3, tc0, tc1, tc2, tc3, tc4, tc5, tc6, reduceIte, true_and, true_or, or_true, and_self, nI_1]
      rw [v51_67]
      exact go
    | false =>
      have ef : nI (frB v t) = 7 := by unfold frB; rw [hb]; rfl
      rw [ef] at go
      simp only [v51_24, v51_26, v51_27, v51_30, v51_33, v51_36, v51_37, v51_40, v51_43, v51_45, v51_46, v51_48, v51_49, v51_51, v51_54, v51_61, v51_63, v51_64, t1, t2, s1, s2, s5, s6, u1, u2, u3, vrf_s, e9, lt, c1, i1, c127, bi, hb, z2_f, pu_s, ib7_0, ib7_1, ib7_2, ib7_3, ib7_4, ib7_5, ib7_6, ib3_0, ib3_1, ib3_2, ib4_0, ib4_1, ib4_2, ib4_3, tc0, tc1, tc2, tc3, tc4, tc5, tc6, reduceIte, true_and, true_or, or_true, and_self, nI_1]
      rw [v51_67]
      exact go
theorem c51_l (hO : SOk s) (kk : ∀ (h2 : Hp) (s' : SG), Fr (TW a o) h h2 → TP r a o ρ β s' p0 h2 → K (some (.int (tbA s))) h2) :
    ∀ (j v : Nat) (h1 : Hp) (s1 : SG) (v4 : Value), v + j = 2 ^ sN s → Fr (TW a o) h h1 → SOk s1 → sN s1 = sN s → (∀ c, fB s1 c (sN s) = fB s c (sN s)) → TP r a o ρ β s1 p0 h1 →
      V 51 8 [.ref r, .int (nI (bcN (tbG s) 0 v).1), .int (bcN (tbG s) 0 v).2, .int (nI v), v4] [] h1 K := by
  have hn8 := hO.1
  obtain ⟨hp1, hp2⟩ := p2b hn8
  have f0 : (-1000 : Int32) < tbG s 0 := gaI_min (hO.fB 0 (sN s)) (p0_ok _)
  have sh := nShl (sN s) (by omega)
  intro j
  induction j with
  | zero =>
    intro v h1 s1 v4 hi hf hO1 hs1 hfb hP1
    obtain ⟨⟨t1, t2, t3, t4, hQ, t6, t7⟩, hV, -⟩ := id hP1
    have k3 := hQ.1
    have e9 : gI h1 a 1 = nI (sN s) := by rw [hV.1, hs1]
    have e : v = (2 ^ sN s - 1) + 1 := by omega
    have e8 : (nI (2 ^ sN s) ≤ nI v) = True := eq_true (nI_le (by omega) (by omega))
    simp only [v51_8, v51_9, v51_10, v51_11, v51_14, v51_17, v51_18, v51_93, v51_94, t1, t2, k3, vrf_s, e9, sh, e8, reduceIte, true_and]
    have := kk h1 s1 hf hP1
    rw [e]
    exact this
  | succ j ih =>
    intro v h1 s1 v4 hi hf hO1 hs1 hfb hP1
    obtain ⟨⟨t1, t2, t3, t4, hQ, t6, t7⟩, hV, -⟩ := id hP1
    have k3 := hQ.1
    have e9 : gI h1 a 1 = nI (sN s) := by rw [hV.1, hs1]
    have e8 : (nI (2 ^ sN s) ≤ nI v) = False := eq_false (nI_ge (by omega) (by omega))
    simp only [v51_8, v51_9, v51_10, v51_11, v51_14, v51_17, v51_18, v51_21, v51_22, t1, t2, k3, vrf_s, e9, sh, e8, reduceIte, true_and]
    refine c51_i (s := s1) hO1 _ _ (fun h2 q2 hP2 => ?_) (sN s1) 0 h1 (Nat.zero_add _) Fr.rf (by rw [fB_0]; exact hP1)
    rw [hs1, hfb] at hP2
    rw [hs1]
    have hO2 := hO.fB v (sN s)
    have k5 : gK h2 r = 5 := hP2.1.1
    simp only [v51_70, v51_71, k5, true_and]
    refine c43 hP2 hO2 (p0_ok _) p0_cl (fun h3 q3 hP3 hD3 => ?_)
    have bs := bcN_s (f := tbG s) (lo := 0) f0 v
    rw [Nat.zero_add] at bs
    have go := ih (v + 1) h3 (fB s v (sN s)) (.int (tbG s v)) (by omega) ((hf.tr q2).tr (q3.mo OW.t)) hO2 rfl (fun c => fB_2 s v c (sN s)) hP3
    rw [bs] at go
    change V 51 74 _ (pu (some (.int (tbG s v))) []) h3 K
    by_cases g2 : (bcN (tbG s) 0 v).2 < tbG s v
    · rw [if_pos g2] at go
      simp only [pu_s, v51_74, v51_76, v51_78, v51_79, v51_82, v51_84, v51_85, v51_86, v51_87, Int32.not_le.mpr g2, reduceIte, nI_1]
      rw [v51_90]
      exact go
    · rw [if_neg g2] at go
      simp only [pu_s, v51_74, v51_76, v51_78, v51_79, v51_87, Int32.not_lt.mp g2, reduceIte, nI_1]
      rw [v51_90]
      exact go
theorem c51 (hP : TP r a o ρ β s p0 h) (hO : SOk s) (kk : ∀ (h2 : Hp) (s' : SG), Fr (TW a o) h h2 → TP r a o ρ β s' p0 h2 → K (some (.int (tbA s))) h2) : AM 51 [.ref r] h K := by
  simp only [e51, v51_0, v51_1, v51_2, v51_5, v51_6, v51_7]
  exact c51_l hO kk (2 ^ sN s) 0 h s _ (Nat.zero_add _) Fr.rf hO rfl (fun _ => rfl) hP
end
section
variable {b m x : Nat} {u : LU} {A : XA} {s : SG} {h h1 : Hp} {K : Option Value → Hp → Prop}
theorem k84 (hC : CL b A h) (hW : WF A) (kk : ∀ h2, Fr (CW b) h h2 → CL b A h2 → K (some (.int (tbA (aS A)))) h2) : AM 84 [.ref b] h K := by
  obtain ⟨⟨cn, kb, f0, f1, f3, f4, f5, f6⟩, ⟨ρ, β, hQ, hV, hO, -⟩, -, ⟨ρ', β', hT⟩, -⟩ := id hC
  have k5 : gK h (b + 73) = 5 := hT.1
  simp only [e84, v84_0, v84_1, v84_4, v84_5, v84_8, kb, f0, f1, f3, f4, f5, f6, vrf_s, true_and, true_or, or_true, and_self, not_false_eq_true, pu_s, pu_n, z2_e0, z2_n0, z2_t, z2_f, k5]
  refine c42 cn (by omega) hT (by omega) hQ hV hO (fun h2 q2 hP2 _ _ _ => ?_)
  have hC2 := hC.ut hW q2 TWc ⟨ρ', β', hP2.1⟩
  obtain ⟨⟨cn2, kb2, -, -, g3, -⟩, -⟩ := id hC2
  have k52 := hP2.1.1
  simp only [pu_n, v84_11, v84_12, v84_15, kb2, g3, vrf_s, k52, true_and]
  refine c51 hP2 hO (fun h3 s' q3 hP3 => ?_)
  simp only [pu_s, v84_18]
  exact kk h3 ((q2.tr q3).mo TWw) (hC.ut hW (q2.tr q3) TWc ⟨ρ', β', hP3.1⟩)
theorem k86 (hC : CL b A h) (hW : WF A) (t : Int32) (kk : ∀ h2, Fr (CW b) h h2 → CL b (oMkd A t).1 h2 → K (some (.int (oMkd A t).2)) h2) : AM 86 [.ref b, .int t] h K := by
  obtain ⟨⟨cn, kb, f0, f1, f3, f4, f5, f6⟩, ⟨ρ, β, hQ, hV, hO, -⟩, -, ⟨ρ', β', hT⟩, -⟩ := id hC
  have k5 : gK h (b + 73) = 5 := hT.1
  have hn := hW.1.1
  -- behind the refusal
  have rest : (∀ (h2 : Hp), Fr (TW (b + 74) (b + 110)) h h2 → TP (b + 73) (b + 74) (b + 110) ρ' β' (mkA p0 (aS A)) p0 h2 → V 86 38 [.ref b, .int t] [] h2 K) → V 86 20 [.ref b, .int t] [] h K := by
    intro k2
    simp only [v86_20, v86_21, v86_24, v86_25, v86_28, kb, f0, f1, f3, f4, f5, f6, vrf_s, true_and, true_or, or_true, and_self, not_false_eq_true, pu_s, pu_n, z2_e0, z2_n0, z2_t, z2_f, k5]
    refine c42 cn (by omega) hT (by omega) hQ hV hO (fun h2 q2 hP2 _ _ _ => ?_)
    have hC2 := hC.ut hW q2 TWc ⟨ρ', β', hP2.1⟩
    obtain ⟨⟨cn2, kb2, -, -, g3, -⟩, -⟩ := id hC2
    have k52 := hP2.1.1
    simp only [pu_n, v86_31, v86_32, v86_35, kb2, g3, vrf_s, k52, true_and]
    refine c52 hP2 hO (fun s' _ => p0_ok s') p0_cl rfl (fun h3 q3 hP3 => ?_)
    rw [pu_n]
    exact k2 h3 (q2.tr q3) hP3
  unfold oMkd at kk
  by_cases g : t = -1
  · subst g
    rw [if_pos rfl] at kk
    simp only [e86, v86_0, v86_1, v86_2, reduceIte]
    refine rest (fun h2 q2 hP2 => ?_)
    have hC2 := hC.ut hW q2 TWc ⟨ρ', β', hP2.1⟩
    obtain ⟨⟨cn2, kb2, -, -, g3, -⟩, -⟩ := id hC2
    have k52 := hP2.1.1
    have hO2 := (mkR_ok (π := p0) hO 9).1
    simp only [v86_38, v86_39, v86_40, v86_43, v86_44, v86_47, kb2, g3, vrf_s, k52, not_true_eq_false, reduceIte, true_and]
    refine c43 hP2 hO2 (p0_ok _) p0_cl (fun h3 q3 hP3 hD3 => ?_)
    have q4 := q2.tr (q3.mo OW.t)
    simp only [pu_s, v86_50, v86_67]
    exact kk h3 (q4.mo TWw) (hC.ut hW q4 TWc ⟨ρ', β', hP3.1⟩)
  · rw [if_neg g] at kk
    cases h0 : thI (sN (aS A)) t with
    | none =>
      rw [h0] at kk
      simp only [e86, v86_0, v86_1, v86_2, v86_5, v86_6, v86_7, v86_10, v86_13, v86_14, v86_16, g, kb, f0, f1, f3, f4, f5, f6, vrf_s, true_and, true_or, or_true, and_self, not_false_eq_true, pu_s, pu_n, z2_e0, z2_n0, z2_t, z2_f, k111 hC hW, h0, Option.isSome_none, reduceIte]
      exact k109 (w := 0) hC hW (by decide) (by decide) (fun h2 q2 hC2 => by simp only [pu_s, v86_19, far2, far3, far4, far5]; exact kk h2 q2 hC2)
    | some t' =>
      rw [h0] at kk
      obtain ⟨e, ht⟩ := thI_s (by omega) h0
      simp only [e86, v86_0, v86_1, v86_2, v86_5, v86_6, v86_7, v86_10, g, kb, f0, f1, f3, f4, f5, f6, vrf_s, true_and, true_or, or_true, and_self, not_false_eq_true, pu_s, pu_n, z2_e0, z2_n0, z2_t, z2_f, k111 hC hW, h0, Option.isSome_some, i10, reduceIte]
      refine rest (fun h2 q2 hP2 => ?_)
      subst e
      have hC2 := hC.ut hW q2 TWc ⟨ρ', β', hP2.1⟩
      obtain ⟨⟨cn2, kb2, -, -, g3, -⟩, -⟩ := id hC2
      obtain ⟨⟨t1, t2, t3, t4, hQ2, t6, t7⟩, hV2, -⟩ := id hP2
      obtain ⟨s1, s2, s3, s4, s5, s6, s7, s8, s9, s10, -⟩ := id hQ2
      obtain ⟨u1, u2, u3, u4, u5⟩ := hQ2.th (show t' < 8 by omega)
      have c1 : (nI t').toNatClampNeg = t' := nIc (by omega)
      have i1 : inb (nI t') 8 = True := nIb (by omega) (by omega)
      have sn := (mkR_ok (π := p0) hO 9).2.1
      change sN (mkA p0 (aS A)) = sN (aS A) at sn
      have ee := hV2.t (t := t') (by rw [sn]; exact ht) (k := 5) (by omega)
      simp only [v86_38, v86_39, v86_40, v86_53, v86_54, v86_57, v86_60, v86_63, v86_64, v86_65, v86_66, v86_67, kb2, g3, vrf_s, t1, t2, s1, s2, s5, s6, u1, u2, u3, c1, i1, ib7_0, ib7_1, ib7_2, ib7_3, ib7_4, ib7_5, ib7_6, ib3_0, ib3_1, ib3_2, ib4_0, ib4_1, ib4_2, ib4_3, tc0, tc1, tc2, tc3, tc4, tc5, tc6, ee, g, not_false_eq_true, reduceIte, true_and, true_or, or_true, and_self]
      exact kk h2 (q2.mo TWw) hC2
/-- the reference's table, over the tried object -/
theorem k202_i (hM : MSh m h) (hP : MP m (aS A) h) (hMx : MSh x h) (hO : SOk s) (hs : sN s = sN (aS A)) (hOA : SOk (aS A)) (hd : m + 59 ≤ x) {v : Nat} (v2 v3 : Value)
    (kk : ∀ h2 : Hp, Fr (fun a _ => x + 18 ≤ a ∧ a < x + 26) h h2 → MP x (fB s v (sN s)) h2 → V 202 67 [.ref m, .ref x, v2, v3, .int (nI v), .int (nI (sN s))] [] h2 K) :
    ∀ (j t : Nat) (h1 : Hp), t + j = sN s → Fr (fun a _ => x + 18 ≤ a ∧ a < x + 26) h h1 → MP x (fB s v t) h1 → V 202 26 [.ref m, .ref x, v2, v3, .int (nI v), .int (nI t)] [] h1 K := by
  have hn8 := hO.1
  intro j
  induction j with
  | zero =>
    intro t h1 hi hf hP1
    have e : t = sN s := by omega
    subst e
    have hM1 : MSh m h1 := hM.fr hf (fun a j z => ⟨by omega, fun y => by omega⟩)
    have e9 : gI h1 m 9 = nI (sN s) := by rw [hf.i (fun z => by omega), hP.1, hs]
    have e8 : (nI (sN s) ≤ nI (sN s)) = True := eq_true (nI_le (Nat.le_refl _) (by omega))
    simp only [v202_26, v202_28, v202_29, v202_32, hM1.k0, e9, e8, reduceIte, true_and]
    exact kk h1 hf hP1
  | succ j ih =>
    intro t h1 hi hf hP1
    have ht : t < sN s := by omega
    have hM1 : MSh m h1 := hM.fr hf (fun a j z => ⟨by omega, fun y => by omega⟩)
    have hX1 : MSh x h1 := hMx.fr hf (fun a j z => ⟨by omega, fun y => by omega⟩)
    obtain ⟨u1, u2, u3⟩ := hX1.th (show t < 8 by omega)
    have e9 : gI h1 m 9 = nI (sN s) := by rw [hf.i (fun z => by omega), hP.1, hs]
    have lt : (nI (sN s) ≤ nI t) = False := eq_false (nI_ge ht (by omega))
    have c1 : (nI t).toNatClampNeg = t := nIc (by omega)
    have i1 : inb (nI t) 8 = True := nIb (by omega) (by omega)
    have bi := bitI_N v t (by omega)
    unfold bitI at bi
    have hP2 := hP1.set (hO.fB v t) (t := t) (k := 6) (v := frB v t) ht
    rw [fB_s] at hP2
    have go := ih (t + 1) _ (by omega) (hf.pI ⟨by omega, by omega⟩) hP2
    cases hb : v.testBit t with
    | true =>
      have ef : nI (frB v t) = 0 := by unfold frB; rw [hb]; rfl
      rw [ef] at go
      rw [hb] at bi
      have bz := of_decide_eq_true bi
      simp only [v202_26, v202_28, v202_29, v202_32, v202_35, v202_36, v202_39, v202_41, v202_42, v202_44, v202_46, v202_48, v202_49, v202_50, v202_51, v202_54, v202_55, v202_60, v202_61, hM1.k0, hX1.k0, hX1.f10, hX1.k17, hX1.n17, u1, u2, u3, vrf_s, e9, lt, c1, i1, bz, ib7_0, ib7_1, ib7_2, ib7_3, ib7_4, ib7_5, ib7_6, ib3_0, ib3_1, ib3_2, ib4_0, ib4_1, ib4_2, ib4_3, tc0, tc1, tc2, tc3, tc4, tc5, tc6, reduceIte, true_and, true_or, or_true, and_self, nI_1]
      rw [v202_64]
      exact go
    | false =>
      have ef : nI (frB v t) = 7 := by unfold frB; rw [hb]; rfl
      rw [ef] at go
      rw [hb] at bi
      have bz : (nI v >>> (nI t &&& 31)) &&& 1 = 0 := Decidable.not_not.mp (of_decide_eq_false bi)
      simp only [v202_26, v202_28, v202_29, v202_32, v202_35, v202_36, v202_39, v202_41, v202_42, v202_44, v202_46, v202_48, v202_49, v202_50, v202_51, v202_58, v202_60, v202_61, hM1.k0, hX1.k0, hX1.f10, hX1.k17, hX1.n17, u1, u2, u3, vrf_s, e9, lt, c1, i1, bz, ib7_0, ib7_1, ib7_2, ib7_3, ib7_4, ib7_5, ib7_6, ib3_0, ib3_1, ib3_2, ib4_0, ib4_1, ib4_2, ib4_3, tc0, tc1, tc2, tc3, tc4, tc5, tc6, reduceIte, true_and, true_or, or_true, and_self, nI_1]
      rw [v202_64]
      exact go
theorem k202_l (hM : MSh m h) (hP : MP m (aS A) h) (hMx : MSh x h) (hpx : PP x p0 h) (hO : SOk (aS A)) (hd : m + 59 ≤ x) (kk : ∀ (h2 : Hp), Fr (fun a j => MKW x a j) h h2 → K (some (.int (tbA (aS A)))) h2) :
    ∀ (j v : Nat) (h1 : Hp) (s1 : SG) (v5 : Value), v + j = 2 ^ sN (aS A) → Fr (fun a j => MKW x a j) h h1 → SOk s1 → sN s1 = sN (aS A) → (∀ c, fB s1 c (sN (aS A)) = fB (aS A) c (sN (aS A))) → MP x s1 h1 →
      V 202 12 [.ref m, .ref x, .int (nI (bsN (tbG (aS A)) v).1), .int (bsN (tbG (aS A)) v).2, .int (nI v), v5] [] h1 K := by
  have hn8 := hO.1
  have hm24 := hO.2.1
  obtain ⟨hp1, hp2⟩ := p2b hn8
  have sh := nShl (sN (aS A)) (by omega)
  have kM : ∀ h1, Fr (fun a j => MKW x a j) h h1 → MSh m h1 ∧ MP m (aS A) h1 := fun h1 w => ⟨hM.fr w (fun a j z => by unfold MKW DW at z; exact ⟨by omega, fun y => by omega⟩), hP.fr hO w (fun a j z => by unfold MKW DW at z; exact ⟨fun y => by omega, fun y => by omega, fun y => by omega⟩)⟩
  intro j
  induction j with
  | zero =>
    intro v h1 s1 v5 hi hf hO1 hs1 hfb hP1
    obtain ⟨hM1, hPm⟩ := kM h1 hf
    have e : v = (2 ^ sN (aS A) - 1) + 1 := by omega
    have e8 : (nI (2 ^ sN (aS A)) ≤ nI v) = True := eq_true (nI_le (by omega) (by omega))
    simp only [v202_12, v202_14, v202_15, v202_16, v202_19, v202_20, v202_96, v202_97, hM1.k0, hPm.1, sh, e8, reduceIte, true_and]
    have := kk h1 hf
    rw [e]
    exact this
  | succ j ih =>
    intro v h1 s1 v5 hi hf hO1 hs1 hfb hP1
    obtain ⟨hM1, hPm⟩ := kM h1 hf
    have hX1 := hMx.kw hf
    have e8 : (nI (2 ^ sN (aS A)) ≤ nI v) = False := eq_false (nI_ge (by omega) (by omega))
    simp only [v202_12, v202_14, v202_15, v202_16, v202_19, v202_20, v202_23, v202_24, hM1.k0, hPm.1, sh, e8, reduceIte, true_and]
    refine k202_i hM1 hPm hX1 (s := s1) hO1 hs1 hO hd _ _ (fun h2 q2 hP2 => ?_) (sN s1) 0 h1 (Nat.zero_add _) Fr.rf (by rw [fB_0]; exact hP1)
    rw [hs1, hfb] at hP2
    rw [hs1]
    have hO2 := hO.fB v (sN (aS A))
    have w2 : Fr (fun a j => MKW x a j) h h2 := hf.tr (q2.mo (fun a j z => Or.inr z))
    have hX2 := hMx.kw w2
    have k7 := hX2.k0
    simp only [v202_67, v202_68, k7, true_and]
    refine c188 hX2 hP2 hO2 (p0_ok _) (hpx.kw w2) (fun h3 q3 hD3 => ?_)
    have w3 : Fr (fun a j => MKW x a j) h h3 := w2.tr (q3.mo (fun a j z => Or.inl z))
    have go := ih (v + 1) h3 (fB (aS A) v (sN (aS A))) (.int (tbG (aS A) v)) (by omega) w3 hO2 rfl (fun c => fB_2 (aS A) v c (sN (aS A))) (hP2.dw hO2 q3)
    rw [bsN_s] at go
    have lv : (nI v = 0) = (v = 0) := (nLit (s := v) (by omega)).1
    change V 202 71 _ (pu (some (.int (tbG (aS A) v))) []) h3 K
    by_cases g : v = 0
    · rw [if_pos (Or.inl g)] at go
      simp only [pu_s, v202_71, v202_73, v202_75, v202_84, v202_86, v202_87, v202_89, v202_90, lv, g, reduceIte, nI_1]
      rw [v202_93]
      simp only [g] at go
      exact go
    · by_cases g2 : (bsN (tbG (aS A)) v).2 < tbG (aS A) v
      · rw [if_pos (Or.inr g2)] at go
        simp only [pu_s, v202_71, v202_73, v202_75, v202_78, v202_80, v202_81, v202_84, v202_86, v202_87, v202_89, v202_90, lv, g, Int32.not_le.mpr g2, reduceIte, nI_1]
        rw [v202_93]
        exact go
      · rw [if_neg (fun z => z.elim g g2)] at go
        simp only [pu_s, v202_71, v202_73, v202_75, v202_78, v202_80, v202_81, v202_90, lv, g, Int32.not_lt.mp g2, reduceIte, nI_1]
        rw [v202_93]
        exact go
theorem k202 (hR : MR m u A h) (hW : WF A) (kk : ∀ (h2 : Hp) (u2 : LU), MG m h h2 → MR m u2 A h2 → K (some (.int (tbA (aS A)))) h2) : AM 202 [.ref m] h K := by
  obtain ⟨r0, hM, hpp, hP, hQ, hS, hT, hF, hL⟩ := id hR
  simp only [e202, v202_0, v202_1, hM.k0, true_and]
  refine c231 hR hW (fun h2 u2 x a1 a2 a3 a4 hR2 hu hO2 hP2 hQ2 => ?_)
  obtain ⟨r0, hM2, hpp2, hPm2, hQm2, hS2, hT2, hF2, hL2⟩ := id hR2
  simp only [pu_s, v202_4, v202_5, v202_6, v202_7, v202_8, v202_9, v202_10]
  refine k202_l hM2 hPm2 hO2.2.2.1 hO2.2.2.2 hW.1 hO2.1 (fun h3 q3 => ?_) (2 ^ sN (aS A)) 0 h2 (aS A) _ (Nat.zero_add _) Fr.rf hW.1 rfl (fun _ => rfl) hP2
  have hF : ∀ a j, MKW x a j → x ≤ a ∧ a < x + 59 := fun a j z => by unfold MKW DW at z; omega
  have hb := hO2.1
  have hO3 : OB m x h3 := ⟨hb, by rw [q3.2.2.1]; exact hO2.2.1, hO2.2.2.1.kw q3, hO2.2.2.2.kw q3⟩
  exact kk h3 u2 ⟨a1.tr (Ag.of q3 (fun a j z => by have := hF a j z; omega)), by rw [q3.2.2.1]; exact a2, by rw [q3.2.2.1]; omega, by rw [q3.2.2.2.1]; omega⟩ (hR2.ob hW hb q3 hF (hL2.tried hu q3 hF hO3))
theorem k204 (hR : MR m u A h) (hW : WF A) (t : Int32) (kk : ∀ (h2 : Hp) (u2 : LU), MG m h h2 → MR m u2 (oMkd A t).1 h2 → K (some (.int (oMkd A t).2)) h2) : AM 204 [.ref m, .int t] h K := by
  obtain ⟨r0, hM, hpp, hP, hQ, hS, hT, hF, hL⟩ := id hR
  have hn := hW.1.1
  have hO := hW.1
  -- behind the making
  have r2 : ∀ (h1 : Hp) (u1 : LU) (x : Nat), Ag m h h1 → gX h ≤ gX h1 → gX h1 ≤ gX h + 60 → gS h1 ≤ gS h + 1000 → MR m u1 A h1 → u1.2.2 = some x → (∀ (h3 : Hp), Ag m h h3 → gX h ≤ gX h3 → gX h3 ≤ gX h + 60 → gS h3 ≤ gS h + 1000 → MR m u1 A h3 → OB m x h3 → MP x (mkA p0 (aS A)) h3 → V 204 57 [.ref m, .int t] [] h3 K) → V 204 42 [.ref m, .int t] [] h1 K := by
    intro h1 u1 x a1 a2 a3 a4 hR1 hu k2
    obtain ⟨r0, hM1, hpp1, hP1, hQ1, hS1, hT1, hF1, hL1⟩ := id hR1
    have hOx := hL1.2.2.2.1 x (Or.inr (Or.inr hu))
    have hb := hOx.1
    have r19 : gR h1 m 19 = some x := hL1.2.2.1.trans hu
    have kx := hOx.2.2.1.k0
    simp only [v204_42, v204_43, v204_46, v204_47, hM1.k0, r19, vrf_s, kx, true_and]
    refine c233 hOx.2.2.1 hM1 (Or.inr hOx.1) hP1 hQ1 hO (fun h2 q2 hP2 hQ2 => ?_)
    have hF : ∀ a j, TK x a j → x ≤ a ∧ a < x + 59 := fun a j z => by unfold TK at z; omega
    have hO2 := hOx.tk q2
    have hR2 := hR1.ob hW hb q2 hF (hL1.marking hu q2 hF hO2)
    have k2' := hR2.2.1.k0
    have r19' : gR h2 m 19 = some x := hR2.2.2.2.2.2.2.2.2.2.2.1.trans hu
    have kx2 := hO2.2.2.1.k0
    simp only [pu_n, v204_50, v204_51, v204_54, k2', r19', vrf_s, kx2, true_and]
    refine c203 hO2.2.2.1 hP2 hO (fun s' _ => p0_ok s') hO2.2.2.2 (fun h3 q3 hP3 => ?_)
    have hF3 : ∀ a j, MKW x a j → x ≤ a ∧ a < x + 59 := fun a j z => by unfold MKW DW at z; omega
    have hO3 : OB m x h3 := ⟨hb, by rw [q3.2.2.1]; exact hO2.2.1, hO2.2.2.1.kw q3, hO2.2.2.2.kw q3⟩
    have hR3 := hR2.ob hW hb q3 hF3 (hR2.2.2.2.2.2.2.2.2.marking hu q3 hF3 hO3)
    rw [pu_n]
    exact k2 h3 ((a1.tr (Ag.of q2 (fun a j z => by have := hF a j z; omega))).tr (Ag.of q3 (fun a j z => by have := hF3 a j z; omega))) (by rw [q3.2.2.1, q2.2.2.1]; exact a2) (by rw [q3.2.2.1, q2.2.2.1]; exact a3) (by rw [q3.2.2.2.1, q2.2.2.2.1]; exact a4) hR3 hO3 hP3
  have rest : (∀ (h3 : Hp) (u3 : LU) (x : Nat), Ag m h h3 → gX h ≤ gX h3 → gX h3 ≤ gX h + 60 → gS h3 ≤ gS h + 1000 → MR m u3 A h3 → u3.2.2 = some x → OB m x h3 → MP x (mkA p0 (aS A)) h3 → V 204 57 [.ref m, .int t] [] h3 K) → V 204 24 [.ref m, .int t] [] h K := by
    intro k3
    have r19 : gR h m 19 = u.2.2 := hL.2.2.1
    cases hu : u.2.2 with
    | some x =>
      rw [hu] at r19
      have ns : ((some x : Option Nat) = none) = False := eq_false (by simp)
      simp only [v204_24, v204_25, hM.k0, r19, true_and, v204_28, ns, reduceIte]
      exact r2 h u x Ag.rf (Nat.le_refl _) (by omega) (by omega) hR hu (fun h3 a1 a2 a3 a4 hR3 hO3 hP3 => k3 h3 u x a1 a2 a3 a4 hR3 hu hO3 hP3)
    | none =>
      rw [hu] at r19
      have km : gK (mk1 h 7 0 41) (gX h) = 7 := if_pos rfl
      simp only [v204_24, v204_25, hM.k0, r19, true_and, v204_28, reduceIte, v204_31, v204_32, v204_35, v204_36, km]
      refine n133 (m := gX h) rfl (fun h1 g1 g2 g3 hN => ?_)
      obtain ⟨hR1, hO1⟩ := MR.new19 hR hW hu g1 g3 hN
      have k1 : gK h1 m = 7 := (g3.ak (by omega)).trans hM.k0
      simp only [pu_n, v204_39, k1, true_and]
      exact r2 _ _ (gX h) ((g3.mo (by omega)).pR (Nat.le_refl _)) (by show gX h ≤ gX h1; omega) (by show gX h1 ≤ _; omega) (by show gS h1 ≤ _; omega) hR1 rfl (fun h3 a1 a2 a3 a4 hR3 hO3 hP3 => k3 h3 _ (gX h) a1 a2 a3 a4 hR3 rfl hO3 hP3)
  unfold oMkd at kk
  by_cases g : t = -1
  · subst g
    rw [if_pos rfl] at kk
    simp only [e204, v204_0, v204_1, v204_2, reduceIte]
    refine rest (fun h3 u3 x a1 a2 a3 a4 hR3 hu hO3 hP3 => ?_)
    have r19 : gR h3 m 19 = some x := hR3.2.2.2.2.2.2.2.2.2.2.1.trans hu
    have k7 := hR3.2.1.k0
    have kx := hO3.2.2.1.k0
    have hb := hO3.1
    simp only [v204_57, v204_58, v204_59, v204_62, v204_63, v204_66, k7, r19, vrf_s, kx, not_true_eq_false, reduceIte, true_and]
    refine c188 hO3.2.2.1 hP3 (mkR_ok (π := p0) hO 9).1 (p0_ok _) hO3.2.2.2 (fun h4 q4 hD4 => ?_)
    have hF : ∀ a j, DW x a j → x ≤ a ∧ a < x + 59 := fun a j z => by unfold DW at z; omega
    have hO4 : OB m x h4 := ⟨hb, by rw [q4.2.2.1]; exact hO3.2.1, hO3.2.2.1.dw q4, hO3.2.2.2.dw q4⟩
    simp only [pu_s, v204_69, v204_83]
    exact kk h4 u3 ⟨a1.tr (Ag.of q4 (fun a j z => by have := hF a j z; omega)), by rw [q4.2.2.1]; exact a2, by rw [q4.2.2.1]; omega, by rw [q4.2.2.2.1]; omega⟩ (hR3.ob hW hb q4 hF (hR3.2.2.2.2.2.2.2.2.marking hu q4 hF hO4))
  · rw [if_neg g] at kk
    cases h0 : thI (sN (aS A)) t with
    | none =>
      rw [h0] at kk
      replace kk := fun h2 => kk h2 u
      simp only [e204, v204_0, v204_1, v204_2, v204_5, v204_6, v204_7, v204_10, v204_13, v204_16, v204_17, v204_19, g, hM.f0, hM.f1, hM.f2, hM.f3, hM.f4, hM.f5, hM.f6, hM.f8, hM.f10, hM.f12, hM.f13, hM.f25, hM.f27, hM.f28, hM.f36, hM.f37, hM.f38, hM.f40, hM.k0, hM.k1, hM.k2, hM.k3, hM.k4, hM.k13, hM.k14, hM.k15, hM.k16, hM.k17, hM.k26, hM.k51, hM.k52, hM.k53, hM.k54, hM.k55, hM.k56, hM.k57, hM.k58, hM.n1, hM.n2, hM.n3, hM.n4, hM.n13, hM.n14, hM.n15, hM.n16, hM.n17, hM.n26, hM.n51, hM.n52, hM.n53, hM.n54, hM.n55, hM.n56, hM.n57, hM.n58, vrf_s, true_or, or_true, true_and, and_true, and_self, not_false_eq_true, pu_s, pu_n, z2_e0, z2_n0, z2_t, z2_f, k136 hR hW, h0, Option.isSome_none, reduceIte]
      exact k134 (w := 0) hR hW (by decide) (by decide) (fun h2 q2 hR2 => by simp only [pu_s, v204_22, v204_23, far2]; exact kk h2 (MG.of q2 (fun a j z => by omega)) hR2)
    | some t' =>
      rw [h0] at kk
      obtain ⟨e, ht⟩ := thI_s (by omega) h0
      simp only [e204, v204_0, v204_1, v204_2, v204_5, v204_6, v204_7, v204_10, g, hM.f0, hM.f1, hM.f2, hM.f3, hM.f4, hM.f5, hM.f6, hM.f8, hM.f10, hM.f12, hM.f13, hM.f25, hM.f27, hM.f28, hM.f36, hM.f37, hM.f38, hM.f40, hM.k0, hM.k1, hM.k2, hM.k3, hM.k4, hM.k13, hM.k14, hM.k15, hM.k16, hM.k17, hM.k26, hM.k51, hM.k52, hM.k53, hM.k54, hM.k55, hM.k56, hM.k57, hM.k58, hM.n1, hM.n2, hM.n3, hM.n4, hM.n13, hM.n14, hM.n15, hM.n16, hM.n17, hM.n26, hM.n51, hM.n52, hM.n53, hM.n54, hM.n55, hM.n56, hM.n57, hM.n58, vrf_s, true_or, or_true, true_and, and_true, and_self, not_false_eq_true, pu_s, pu_n, z2_e0, z2_n0, z2_t, z2_f, k136 hR hW, h0, Option.isSome_some, i10, reduceIte]
      refine rest (fun h3 u3 x a1 a2 a3 a4 hR3 hu hO3 hP3 => ?_)
      subst e
      have r19 : gR h3 m 19 = some x := hR3.2.2.2.2.2.2.2.2.2.2.1.trans hu
      have k7 := hR3.2.1.k0
      have hX := hO3.2.2.1
      obtain ⟨u1, u2, u3'⟩ := hX.th (show t' < 8 by omega)
      have c1 : (nI t').toNatClampNeg = t' := nIc (by omega)
      have i1 : inb (nI t') 8 = True := nIb (by omega) (by omega)
      have sn := (mkR_ok (π := p0) hO 9).2.1
      change sN (mkA p0 (aS A)) = sN (aS A) at sn
      have ee := hP3.t (t := t') (by rw [sn]; exact ht) (k := 5) (by omega)
      simp only [v204_57, v204_58, v204_59, v204_72, v204_73, v204_76, v204_79, v204_80, v204_81, v204_82, v204_83, k7, r19, vrf_s, hX.k0, hX.f10, hX.k17, hX.n17, u1, u2, u3', c1, i1, ib7_0, ib7_1, ib7_2, ib7_3, ib7_4, ib7_5, ib7_6, ib3_0, ib3_1, ib3_2, ib4_0, ib4_1, ib4_2, ib4_3, tc0, tc1, tc2, tc3, tc4, tc5, tc6, ee, g, not_false_eq_true, reduceIte, true_and, true_or, or_true, and_self]
      exact kk h3 u3 ⟨a1, a2, by omega, by omega⟩ hR3
end
