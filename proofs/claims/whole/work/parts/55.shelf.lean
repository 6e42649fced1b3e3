/-! SHELVES: row, set, element, holds, show, on both sides -/
def isRw (o : Option Nat) : Bool := match o with
  | none => false
  | some k => decide (k ≤ 4)
def isTh (o : Option Nat) : Bool := match o with
  | none => false
  | some k => decide (10 ≤ k)
/-- what is to be refused where a shelf must hold a row -/
def rrC (A : XA) (s : Int32) : Option Nat := match rgI 0 7 s with
  | none => some 0
  | some i => if isTh (aH A i).1 = true then some 1 else if isRw (aH A i).1 = true then none else some 2
theorem rrC_lt {A : XA} {s : Int32} {w : Nat} (h : rrC A s = some w) : w < 3 := by
  unfold rrC at h
  cases hs : rgI 0 7 s with
  | none => rw [hs] at h; cases h; decide
  | some i =>
    rw [hs] at h
    dsimp only at h
    split at h
    · cases h; decide
    · split at h
      · cases h
      · cases h; decide
theorem rrC_n {A : XA} {s : Int32} (h : rrC A s = none) : ∃ i, rgI 0 7 s = some i ∧ s = nI i ∧ i ≤ 7 ∧ ∃ k, (aH A i).1 = some k ∧ k ≤ 4 := by
  unfold rrC at h
  cases hs : rgI 0 7 s with
  | none => rw [hs] at h; cases h
  | some i =>
    obtain ⟨e1, -, e2⟩ := rgI_s (by decide) (by decide) hs
    rw [hs] at h
    dsimp only at h
    split at h
    · cases h
    · split at h
      · rename_i q
        refine ⟨i, rfl, e1, e2, ?_⟩
        cases ho : (aH A i).1 with
        | none => rw [ho] at q; cases q
        | some k => rw [ho] at q; exact ⟨k, rfl, of_decide_eq_true q⟩
      · cases h
theorem rf_ne {w : Nat} (hw : w < 5) : (-2 - nI w = 0) = False := eq_false (by
  have : w = 0 ∨ w = 1 ∨ w = 2 ∨ w = 3 ∨ w = 4 := by omega
  rcases this with rfl | rfl | rfl | rfl | rfl <;> decide)
theorem rf_b {w : Nat} (hw : w < 5) : -2 - (-2 - nI w) = nI w := by
  have : w = 0 ∨ w = 1 ∨ w = 2 ∨ w = 3 ∨ w = 4 := by omega
  rcases this with rfl | rfl | rfl | rfl | rfl <;> decide
theorem rf_n {w : Nat} (hw : w < 5) : -(-2 - nI w) = nI (2 + w) := by
  have : w = 0 ∨ w = 1 ∨ w = 2 ∨ w = 3 ∨ w = 4 := by omega
  rcases this with rfl | rfl | rfl | rfl | rfl <;> decide
/-- a refusal: the state, and the answer -/
def rfI (A : XA) (w : Nat) (x : Int32) : XA × Int32 := (rfu A w, x)
def fitJ (k : Nat) (v : Int64) : Int64 := if k = 0 then v.toInt32.toInt8.toInt32.toInt64 else if k = 1 then v.toInt32.toInt16.toInt32.toInt64 else if k = 2 then v.toInt32.toInt64 else if k = 3 then v else if v = 0 then 0 else 1
def oRow (A : XA) (s t n : Int32) : XA × Int32 := match rgI 0 7 s with
  | none => rfI A 0 (-2)
  | some s => match rgI 0 4 t with
    | none => rfI A 0 (-2)
    | some t => match rgI 0 40 n with
      | none => rfI A 0 (-2)
      | some n => (wH A (up (aH A) s (some t, n, fun _ => 0)), 1)
def oSet (A : XA) (s i : Int32) (v : Int64) : XA × Int32 := match rrC A s with
  | some w => rfI A w (-2 - nI w)
  | none => match thI (aH A s.toNatClampNeg).2.1 i with
    | none => rfI A 0 (-2)
    | some i => (wH A (up (aH A) s.toNatClampNeg ((aH A s.toNatClampNeg).1, (aH A s.toNatClampNeg).2.1, up (aH A s.toNatClampNeg).2.2 i (fitJ ((aH A s.toNatClampNeg).1.getD 0) v))), 1)
def oElm (A : XA) (s i : Int32) : Int64 := match rgI 0 7 s with
  | none => 0
  | some s => if isRw (aH A s).1 = true then (match thI (aH A s).2.1 i with
    | none => 0
    | some i => (aH A s).2.2 i) else 0
def oHld (A : XA) (s : Int32) : Int32 := match rgI 0 7 s with
  | none => -1
  | some s => oI (aH A s).1
def oShw (A : XA) (s t : Int32) : XA × Int32 := match rgI 0 7 s with
  | none => rfI A 0 (-2)
  | some s => if t = -1 then (wH A (up (aH A) s (none, (aH A s).2)), 1) else (match thI (sN (aS A)) t with
    | none => rfI A 0 (-2)
    | some t => (wH A (up (aH A) s (some (10 + t), (aH A s).2)), 1))
theorem rgI_ix {i : Nat} (hi : i ≤ 7) : (nI i).toNatClampNeg = i := nIc (by omega)
section
variable {a b : Nat} {A : XA} {o : Option Nat} {sh : Nat → XH} {h h1 : Hp} {K : Option Value → Hp → Prop}
theorem c14 (ka : gK h a = 2) (e : gI h a 0 = oI o) (hb : ∀ k, o = some k → k < 1000) : AM 14 [.ref a] h K = K (some (.int (z2 o.isNone))) h := by
  simp only [v14_0, v14_1, v14_4, v14_5, v14_8, v14_9, v14_12, v14_13, e14, ka, e, true_and, bo_0, bo_1]
  cases o with
  | none => simp only [oI, reduceIte, Option.isNone_none, z2_t, not_true_eq_false]
  | some k =>
    have := hb k rfl
    have l : (nI k = -1) = False := nm1 (by omega)
    simp only [oI, l, reduceIte, Option.isNone_some, z2_f, not_false_eq_true]
theorem c15 (ka : gK h a = 2) (e : gI h a 0 = oI o) (hb : ∀ k, o = some k → k < 1000) : AM 15 [.ref a] h K = K (some (.int (z2 (isRw o)))) h := by
  simp only [v15_0, v15_1, v15_4, v15_5, v15_6, v15_9, e15, ka, e, true_and, c123, pu_s, bo_z2]
  cases o with
  | none => rfl
  | some k =>
    have := hb k rfl
    have : inI (nI k) 0 4 = decide (k ≤ 4) := by
      unfold inI
      rw [decide_eq_true (nI_pos' (by omega)), Bool.true_and]
      exact decide_eq_decide.mpr (nI_leI (b := 4) (by omega) (by decide))
    rw [show oI (some k) = nI k from rfl, this]
    rfl
theorem c16 (ka : gK h a = 2) (e : gI h a 0 = oI o) (hb : ∀ k, o = some k → k < 1000) : AM 16 [.ref a] h K = K (some (.int (z2 (isTh o)))) h := by
  simp only [v16_0, v16_1, v16_4, v16_6, v16_9, v16_10, v16_13, v16_14, e16, ka, e, true_and, bo_0, bo_1]
  cases o with
  | none =>
    have l : ((oI none : Int32) < 10) = True := eq_true (by decide)
    simp only [l, reduceIte]
    rfl
  | some k =>
    have := hb k rfl
    have l : (oI (some k) < 10) = (k < 10) := nltN (c := 10) (by omega) (by decide)
    simp only [l]
    by_cases g : k < 10
    · rw [if_pos g]
      show _ = K (some (.int (z2 (decide (10 ≤ k))))) h
      rw [decide_eq_false (by omega)]
      rfl
    · rw [if_neg g]
      show _ = K (some (.int (z2 (decide (10 ≤ k))))) h
      rw [decide_eq_true (by omega)]
      rfl
theorem SHC.bd {A : XA} (hW : WF A) {i : Nat} (hi : i < 8) : ∀ k, (aH A i).1 = some k → k < 1000 := fun k hk => by
  have := (hW.2.2.2.2 i hi).2 k hk
  have := hW.1.1
  omega
theorem k113 (hC : CL b A h) (hW : WF A) (s : Int32) : AM 113 [.ref b, .int s] h K = K (some (.int (match rrC A s with | some w => -2 - nI w | none => 0))) h := by
  obtain ⟨⟨cn, kb, f0, f1, f3, f4, f5, f6⟩, hST, hKP, hTR, hTA, ⟨s1, s2, s3⟩, hRF⟩ := id hC
  unfold rrC
  cases hs : rgI 0 7 s with
  | none =>
    simp only [v113_0, v113_1, v113_2, v113_5, v113_8, v113_10, v113_11, v113_12, v113_15, v113_16, v113_17, v113_20, v113_23, v113_25, v113_26, v113_27, v113_30, v113_31, v113_32, v113_35, v113_38, v113_39, v113_42, v113_44, e113, kb, f0, f1, f3, f4, f5, f6, vrf_s, true_and, true_or, or_true, and_self, not_false_eq_true, pu_s, pu_n, z2_e0, z2_n0, z2_t, z2_f, k110 hC, hs, Option.isSome_none, reduceIte]
    rfl
  | some i =>
    obtain ⟨rfl, -, hi⟩ := rgI_s (by decide) (by decide) hs
    obtain ⟨x1, x2, x3, x4, x5, x6, x7, x8⟩ := s3 i (by omega)
    have c1 : (nI i).toNatClampNeg = i := nIc (by omega)
    have i1 : inb (nI i) 8 = True := nIb (by omega) (by omega)
    have hb := SHC.bd hW (show i < 8 by omega)
    simp only [v113_0, v113_1, v113_2, v113_5, v113_8, v113_10, v113_11, v113_12, v113_15, v113_16, v113_17, v113_20, v113_23, v113_25, v113_26, v113_27, v113_30, v113_31, v113_32, v113_35, v113_38, v113_39, v113_42, v113_44, e113, kb, f0, f1, f3, f4, f5, f6, vrf_s, true_and, true_or, or_true, and_self, not_false_eq_true, pu_s, pu_n, z2_e0, z2_n0, z2_t, z2_f, k110 hC, hs, Option.isSome_some, reduceIte, i10, s1, s2, c1, i1, x1, x2, c16 x2 x6 hb, c15 x2 x6 hb]
    cases isTh (aH A i).1
    · cases isRw (aH A i).1
      · rfl
      · rfl
    · rfl
theorem c17_l (h0 : gK h a = 2) (hr : gR h a 2 = some (a + 1)) (hk : gK h (a + 1) = 9) (hn : gN h (a + 1) = 40) (v1 v2 : Value) (kk : ∀ h2, Fr (fun x _ => x = a + 1) h h2 → (∀ j, j < 40 → gJ h2 (a + 1) j = 0) → K none h2) :
    ∀ (j i : Nat) (h1 : Hp), i + j = 40 → Fr (fun x _ => x = a + 1) h h1 → (∀ j, j < i → gJ h1 (a + 1) j = 0) → V 17 12 [.ref a, v1, v2, .int (nI i)] [] h1 K := by
  intro j
  induction j with
  | zero =>
    intro i h1 hi hf hz
    have e : i = 40 := by omega
    subst e
    have e8 : ((40 : Int32) ≤ nI 40) = True := eq_true (by decide)
    simp only [v17_12, v17_13, v17_15, v17_31, e8, reduceIte]
    exact kk h1 hf hz
  | succ j ih =>
    intro i h1 hi hf hz
    have e8 : ((40 : Int32) ≤ nI i) = False := eq_false (nI_ge (b := 40) (by omega) (by decide))
    have c1 : (nI i).toNatClampNeg = i := nIc (by omega)
    have i1 : inb (nI i) 40 = True := nIb (by omega) (by omega)
    have k1 : gK h1 a = 2 := hf.k.trans h0
    have r1 : gR h1 a 2 = some (a + 1) := (hf.r (fun z => by omega)).trans hr
    have k2 : gK h1 (a + 1) = 9 := hf.k.trans hk
    have n2 : gN h1 (a + 1) = 40 := hf.n.trans hn
    simp only [v17_12, v17_13, v17_15, v17_18, v17_19, v17_22, v17_23, v17_24, v17_25, e8, reduceIte, k1, r1, k2, n2, vrf_s, c1, i1, true_and, and_self, nI_1]
    rw [v17_28]
    refine ih (i + 1) _ (by omega) (hf.pJ rfl) (fun u hu => ?_)
    by_cases e : u = i
    · subst e; exact gJ_at _ _ _ _
    · rw [gJ_ne (fun z => e z.2)]
      exact hz u (by omega)
/-- one shelf is changed -/
theorem SHC.put (hS : SHC b sh h) {i : Nat} (hi : i < 8) {e : XH} (w : Fr (fun x _ => x = b + 122 + 2 * i ∨ x = b + 123 + 2 * i) h h1) (hr : gR h1 (b + 122 + 2 * i) 2 = some (b + 123 + 2 * i)) (e1 : gI h1 (b + 122 + 2 * i) 0 = oI e.1) (e2 : gI h1 (b + 122 + 2 * i) 1 = nI e.2.1) (e3 : ∀ j, j < 40 → gJ h1 (b + 123 + 2 * i) j = e.2.2 j) : SHC b (up sh i e) h1 := by
  obtain ⟨s1, s2, s3⟩ := hS
  refine ⟨w.k.trans s1, w.n.trans s2, fun u hu => ?_⟩
  obtain ⟨x1, x2, x3, x4, x5, x6, x7, x8⟩ := s3 u hu
  by_cases g : u = i
  · subst g
    rw [up_at]
    exact ⟨(w.r (fun z => by omega)).trans x1, w.k.trans x2, hr, w.k.trans x4, w.n.trans x5, e1, e2, e3⟩
  · rw [up_ne g]
    exact ⟨(w.r (fun z => by omega)).trans x1, w.k.trans x2, (w.r (fun z => by omega)).trans x3, w.k.trans x4, w.n.trans x5, (w.i (fun z => by omega)).trans x6, (w.i (fun z => by omega)).trans x7, fun j hj => (w.j (fun z => by omega)).trans (x8 j hj)⟩
theorem k54 (hC : CL b A h) (hW : WF A) (s t n : Int32) (kk : ∀ h2, Fr (CW b) h h2 → CL b (oRow A s t n).1 h2 → K (some (.int (oRow A s t n).2)) h2) : AM 54 [.ref b, .int s, .int t, .int n] h K := by
  obtain ⟨⟨cn, kb, f0, f1, f3, f4, f5, f6⟩, hST, hKP, hTR, hTA, ⟨s1, s2, s3⟩, hRF⟩ := id hC
  unfold oRow at kk
  cases hs : rgI 0 7 s with
  | none =>
    rw [hs] at kk
    simp only [v54_0, v54_1, v54_2, v54_5, v54_8, v54_9, v54_10, v54_11, v54_14, v54_17, v54_18, v54_19, v54_21, v54_24, v54_27, v54_28, v54_30, v54_33, v54_34, v54_35, v54_38, v54_39, v54_40, v54_41, v54_42, v54_45, v54_46, e54, kb, f0, f1, f3, f4, f5, f6, vrf_s, true_and, true_or, or_true, and_self, not_false_eq_true, pu_s, pu_n, z2_e0, z2_n0, z2_t, z2_f, k110 hC, hs, Option.isSome_none, reduceIte]
    exact k108 (w := 0) hC hW (by decide) (by decide) (fun h2 q2 hC2 => by simp only [pu_s, v54_33]; exact kk h2 q2 hC2)
  | some s' =>
    rw [hs] at kk
    cases ht : rgI 0 4 t with
    | none =>
      rw [ht] at kk
      simp only [v54_0, v54_1, v54_2, v54_5, v54_8, v54_9, v54_10, v54_11, v54_14, v54_17, v54_18, v54_19, v54_21, v54_24, v54_27, v54_28, v54_30, v54_33, v54_34, v54_35, v54_38, v54_39, v54_40, v54_41, v54_42, v54_45, v54_46, e54, kb, f0, f1, f3, f4, f5, f6, vrf_s, true_and, true_or, or_true, and_self, not_false_eq_true, pu_s, pu_n, z2_e0, z2_n0, z2_t, z2_f, k110 hC, hs, Option.isSome_some, c123, ri_0_7, ri_0_4, ri_0_40, ri_0_5, ri_1_99, ri_1_9, ri_0_99, ri_0_9, ri_0_6, ri_0_3, ri_0_255, ri_1_24, ri_3_39, ri_0_1, ri_0_8, ri_0_2, ri_1_30, ri_0_14, ri_12_16, ht, Option.isSome_none, i10, reduceIte]
      exact k108 (w := 0) hC hW (by decide) (by decide) (fun h2 q2 hC2 => by simp only [pu_s, v54_33]; exact kk h2 q2 hC2)
    | some t' =>
      rw [ht] at kk
      cases hn : rgI 0 40 n with
      | none =>
        rw [hn] at kk
        simp only [v54_0, v54_1, v54_2, v54_5, v54_8, v54_9, v54_10, v54_11, v54_14, v54_17, v54_18, v54_19, v54_21, v54_24, v54_27, v54_28, v54_30, v54_33, v54_34, v54_35, v54_38, v54_39, v54_40, v54_41, v54_42, v54_45, v54_46, e54, kb, f0, f1, f3, f4, f5, f6, vrf_s, true_and, true_or, or_true, and_self, not_false_eq_true, pu_s, pu_n, z2_e0, z2_n0, z2_t, z2_f, k110 hC, hs, Option.isSome_some, c123, ri_0_7, ri_0_4, ri_0_40, ri_0_5, ri_1_99, ri_1_9, ri_0_99, ri_0_9, ri_0_6, ri_0_3, ri_0_255, ri_1_24, ri_3_39, ri_0_1, ri_0_8, ri_0_2, ri_1_30, ri_0_14, ri_12_16, ht, hn, Option.isSome_none, i10, reduceIte]
        exact k108 (w := 0) hC hW (by decide) (by decide) (fun h2 q2 hC2 => by simp only [pu_s, v54_33]; exact kk h2 q2 hC2)
      | some n' =>
        rw [hn] at kk
        obtain ⟨es, -, hs7⟩ := rgI_s (by decide) (by decide) hs
        obtain ⟨et, -, ht4⟩ := rgI_s (by decide) (by decide) ht
        obtain ⟨en, -, hn40⟩ := rgI_s (by decide) (by decide) hn
        obtain ⟨x1, x2, x3, x4, x5, x6, x7, x8⟩ := s3 s' (by omega)
        have c1 : (nI s').toNatClampNeg = s' := nIc (by omega)
        have i1 : inb (nI s') 8 = True := nIb (by omega) (by omega)
        simp only [v54_0, v54_1, v54_2, v54_5, v54_8, v54_9, v54_10, v54_11, v54_14, v54_17, v54_18, v54_19, v54_21, v54_24, v54_27, v54_28, v54_30, v54_33, v54_34, v54_35, v54_38, v54_39, v54_40, v54_41, v54_42, v54_45, v54_46, e54, kb, f0, f1, f3, f4, f5, f6, vrf_s, true_and, true_or, or_true, and_self, not_false_eq_true, pu_s, pu_n, z2_e0, z2_n0, z2_t, z2_f, k110 hC, hs, Option.isSome_some, c123, ri_0_7, ri_0_4, ri_0_40, ri_0_5, ri_1_99, ri_1_9, ri_0_99, ri_0_9, ri_0_6, ri_0_3, ri_0_255, ri_1_24, ri_3_39, ri_0_1, ri_0_8, ri_0_2, ri_1_30, ri_0_14, ri_12_16, ht, hn, i10, reduceIte]
        subst es et en
        simp only [kb, f0, f1, f3, f4, f5, f6, vrf_s, true_and, true_or, or_true, and_self, not_false_eq_true, pu_s, pu_n, z2_e0, z2_n0, z2_t, z2_f, s1, s2, c1, i1, x1, x2, v54_39, v54_40, v54_41, v54_42, e17, v17_0, v17_1, v17_2, v17_5, v17_6, v17_7, v17_10, v17_11, gI_pJ, gI_pR, gJ_pI, gJ_pR, gR_pI, gR_pJ, gK_pI, gK_pJ, gK_pR, gN_pI, gN_pJ, gN_pR, gX_pI, gX_pJ, gX_pR, gS_pI, gS_pJ, gS_pR, gK_cpI, gN_cpI, gK_cpJ, gN_cpJ, gR_cpI, gR_cpJ, gJ_cpI, gI_cpJ]
        rw [show b + 123 + 2 * s' = b + 122 + 2 * s' + 1 by omega] at x3 x4 x5
        refine c17_l (K := _) (by show gK h _ = 2; exact x2) (by show gR h _ 2 = _; exact x3) (by show gK h _ = 9; exact x4) (by show gN h _ = 40; exact x5) _ _ (fun h2 q2 hz => ?_) 40 0 _ (Nat.zero_add _) Fr.rf (fun j hj => absurd hj (Nat.not_lt_zero j))
        simp only [pu_n, v54_45, v54_46]
        have q3 : Fr (fun x _ => x = b + 122 + 2 * s' ∨ x = b + 123 + 2 * s') h h2 := ((Fr.rf.pI (Or.inl rfl)).pI (Or.inl rfl)).tr (q2.mo (fun x j z => Or.inr (by omega)))
        refine kk h2 (q3.mo (fun x j z => by unfold CW; omega)) (hC.uh hW q3 (fun x j z => by omega) (SHC.put ⟨s1, s2, s3⟩ (by omega) q3 ?_ ?_ ?_ ?_))
        · rw [q2.r (by omega), show b + 123 + 2 * s' = b + 122 + 2 * s' + 1 by omega]
          exact x3
        · rw [q2.i (by omega), gI_ne (by omega), gI_at]
          rfl
        · rw [q2.i (by omega), gI_at]
        · intro j hj
          rw [show b + 123 + 2 * s' = b + 122 + 2 * s' + 1 by omega]
          exact hz j hj
theorem c18 (ka : gK h a = 2) {k : Nat} (hk : k ≤ 4) (e : gI h a 0 = nI k) (v : Int64) : AM 18 [.ref a, .long v] h K = K (some (.long (fitJ k v))) h := by
  have : k = 0 ∨ k = 1 ∨ k = 2 ∨ k = 3 ∨ k = 4 := by omega
  rcases this with rfl | rfl | rfl | rfl | rfl
  · have e' : gI h a 0 = 0 := e
    simp only [v18_0, v18_1, v18_4_0, v18_4_1, v18_4_2, v18_4_3, v18_4_d, v18_36, v18_37, v18_38, v18_39, v18_40, v18_41, v18_42, v18_43, v18_44, v18_45, v18_46, v18_47, v18_48, v18_49, v18_50, v18_51, v18_52, v18_53, v18_54, v18_55, v18_58, v18_59, v18_62, v18_63, e18, ka, e', true_and]
    rfl
  · have e' : gI h a 0 = 1 := e
    simp only [v18_0, v18_1, v18_4_0, v18_4_1, v18_4_2, v18_4_3, v18_4_d, v18_36, v18_37, v18_38, v18_39, v18_40, v18_41, v18_42, v18_43, v18_44, v18_45, v18_46, v18_47, v18_48, v18_49, v18_50, v18_51, v18_52, v18_53, v18_54, v18_55, v18_58, v18_59, v18_62, v18_63, e18, ka, e', true_and]
    rfl
  · have e' : gI h a 0 = 2 := e
    simp only [v18_0, v18_1, v18_4_0, v18_4_1, v18_4_2, v18_4_3, v18_4_d, v18_36, v18_37, v18_38, v18_39, v18_40, v18_41, v18_42, v18_43, v18_44, v18_45, v18_46, v18_47, v18_48, v18_49, v18_50, v18_51, v18_52, v18_53, v18_54, v18_55, v18_58, v18_59, v18_62, v18_63, e18, ka, e', true_and]
    rfl
  · have e' : gI h a 0 = 3 := e
    simp only [v18_0, v18_1, v18_4_0, v18_4_1, v18_4_2, v18_4_3, v18_4_d, v18_36, v18_37, v18_38, v18_39, v18_40, v18_41, v18_42, v18_43, v18_44, v18_45, v18_46, v18_47, v18_48, v18_49, v18_50, v18_51, v18_52, v18_53, v18_54, v18_55, v18_58, v18_59, v18_62, v18_63, e18, ka, e', true_and]
    rfl
  · have e' : gI h a 0 = 4 := e
    have hd : (4 : Int32).toInt < 0 ∨ 3 < (4 : Int32).toInt := by decide
    simp only [v18_0, v18_1, v18_4_0, v18_4_1, v18_4_2, v18_4_3, v18_4_d, v18_36, v18_37, v18_38, v18_39, v18_40, v18_41, v18_42, v18_43, v18_44, v18_45, v18_46, v18_47, v18_48, v18_49, v18_50, v18_51, v18_52, v18_53, v18_54, v18_55, v18_58, v18_59, v18_62, v18_63, e18, v18_4_d 4 hd, ka, e', true_and, lg_eq]
    by_cases g : v = 0
    · simp [fitJ, g]
    · simp [fitJ, g]
theorem k55 (hC : CL b A h) (hW : WF A) (s i : Int32) (v : Int64) (kk : ∀ h2, Fr (CW b) h h2 → CL b (oSet A s i v).1 h2 → K (some (.int (oSet A s i v).2)) h2) : AM 55 [.ref b, .int s, .int i, .long v] h K := by
  obtain ⟨⟨cn, kb, f0, f1, f3, f4, f5, f6⟩, hST, hKP, hTR, hTA, ⟨s1, s2, s3⟩, hRF⟩ := id hC
  unfold oSet at kk
  cases hs : rrC A s with
  | some w =>
    rw [hs] at kk
    have hw := rrC_lt hs
    have ne := rf_ne (w := w) (by omega)
    simp only [v55_0, v55_1, v55_2, v55_5, v55_7, v55_9, v55_12, v55_13, v55_15, v55_18, v55_19, v55_20, v55_21, v55_22, v55_25, v55_26, v55_27, v55_30, v55_31, v55_32, v55_35, v55_38, v55_39, v55_41, v55_44, v55_45, v55_46, v55_49, v55_50, v55_51, v55_54, v55_55, v55_56, v55_59, v55_60, v55_61, v55_62, v55_65, v55_66, v55_67, e55, kb, f0, f1, f3, f4, f5, f6, vrf_s, true_and, true_or, or_true, and_self, not_false_eq_true, pu_s, pu_n, z2_e0, z2_n0, z2_t, z2_f, k113 hC hW, hs, ne, reduceIte]
    exact k108 (w := w) hC hW (by omega) (rf_b (by omega)) (fun h2 q2 hC2 => by simp only [pu_s, v55_18]; exact kk h2 q2 hC2)
  | none =>
    rw [hs] at kk
    obtain ⟨s', es, rfl, hs7, k, hk, hk4⟩ := rrC_n hs
    obtain ⟨x1, x2, x3, x4, x5, x6, x7, x8⟩ := s3 s' (by omega)
    have c1 : (nI s').toNatClampNeg = s' := nIc (by omega)
    have i1 : inb (nI s') 8 = True := nIb (by omega) (by omega)
    have hz := (hW.2.2.2.2 s' (by omega)).1
    have ti := thI_I (n := (aH A s').2.1) (by omega) i
    rw [c1] at kk
    cases hi : thI (aH A s').2.1 i with
    | none =>
      rw [hi] at kk ti
      simp only [v55_0, v55_1, v55_2, v55_5, v55_7, v55_9, v55_12, v55_13, v55_15, v55_18, v55_19, v55_20, v55_21, v55_22, v55_25, v55_26, v55_27, v55_30, v55_31, v55_32, v55_35, v55_38, v55_39, v55_41, v55_44, v55_45, v55_46, v55_49, v55_50, v55_51, v55_54, v55_55, v55_56, v55_59, v55_60, v55_61, v55_62, v55_65, v55_66, v55_67, e55, kb, f0, f1, f3, f4, f5, f6, vrf_s, true_and, true_or, or_true, and_self, not_false_eq_true, pu_s, pu_n, z2_e0, z2_n0, z2_t, z2_f, k113 hC hW, hs, s1, s2, c1, i1, x1, x2, x7, c123, ti, Option.isSome_none, reduceIte]
      exact k108 (w := 0) hC hW (by decide) (by decide) (fun h2 q2 hC2 => by simp only [pu_s, v55_44]; exact kk h2 q2 hC2)
    | some i' =>
      rw [hi] at kk ti
      obtain ⟨rfl, hi'⟩ := thI_s (by omega) hi
      have c2 : (nI i').toNatClampNeg = i' := nIc (by omega)
      have i2 : inb (nI i') 40 = True := nIb (by omega) (by omega)
      have x6' : gI h (b + 122 + 2 * s') 0 = nI k := by rw [x6, hk]; rfl
      simp only [v55_0, v55_1, v55_2, v55_5, v55_7, v55_9, v55_12, v55_13, v55_15, v55_18, v55_19, v55_20, v55_21, v55_22, v55_25, v55_26, v55_27, v55_30, v55_31, v55_32, v55_35, v55_38, v55_39, v55_41, v55_44, v55_45, v55_46, v55_49, v55_50, v55_51, v55_54, v55_55, v55_56, v55_59, v55_60, v55_61, v55_62, v55_65, v55_66, v55_67, e55, kb, f0, f1, f3, f4, f5, f6, vrf_s, true_and, true_or, or_true, and_self, not_false_eq_true, pu_s, pu_n, z2_e0, z2_n0, z2_t, z2_f, k113 hC hW, hs, s1, s2, c1, i1, c2, i2, x1, x2, x3, x4, x5, x7, c123, ti, Option.isSome_some, i10, reduceIte, c18 x2 hk4 x6']
      have q3 : Fr (fun x _ => x = b + 122 + 2 * s' ∨ x = b + 123 + 2 * s') h (pJ h (b + 123 + 2 * s') i' (fitJ k v)) := Fr.rf.pJ (Or.inr rfl)
      rw [hk] at kk
      refine kk _ (q3.mo (fun x j z => by unfold CW; omega)) (hC.uh hW q3 (fun x j z => by omega) (SHC.put ⟨s1, s2, s3⟩ (by omega) q3 x3 x6' x7 (fun j hj => ?_)))
      show _ = up _ i' _ j
      by_cases g : j = i'
      · subst g
        rw [gJ_at, up_at]
        rfl
      · rw [gJ_ne (fun z => g z.2), up_ne g]
        exact x8 j hj
theorem k57 (hC : CL b A h) (hW : WF A) (s i : Int32) : AM 57 [.ref b, .int s, .int i] h K = K (some (.long (oElm A s i))) h := by
  obtain ⟨⟨cn, kb, f0, f1, f3, f4, f5, f6⟩, hST, hKP, hTR, hTA, ⟨s1, s2, s3⟩, hRF⟩ := id hC
  unfold oElm
  cases hs : rgI 0 7 s with
  | none => simp only [v57_0, v57_1, v57_2, v57_5, v57_8, v57_9, v57_12, v57_13, v57_14, v57_17, v57_20, v57_21, v57_22, v57_23, v57_26, v57_27, v57_28, v57_31, v57_32, v57_33, v57_36, v57_39, v57_40, v57_41, v57_42, v57_45, v57_46, v57_47, v57_50, v57_51, v57_52, e57, kb, f0, f1, f3, f4, f5, f6, vrf_s, true_and, true_or, or_true, and_self, not_false_eq_true, pu_s, pu_n, z2_e0, z2_n0, z2_t, z2_f, k110 hC, hs, Option.isSome_none, reduceIte]
  | some s' =>
    obtain ⟨rfl, -, hs7⟩ := rgI_s (by decide) (by decide) hs
    obtain ⟨x1, x2, x3, x4, x5, x6, x7, x8⟩ := s3 s' (by omega)
    have c1 : (nI s').toNatClampNeg = s' := nIc (by omega)
    have i1 : inb (nI s') 8 = True := nIb (by omega) (by omega)
    have hb := SHC.bd hW (show s' < 8 by omega)
    have hz := (hW.2.2.2.2 s' (by omega)).1
    have ti := thI_I (n := (aH A s').2.1) (by omega) i
    cases hr : isRw (aH A s').1 with
    | false => simp only [v57_0, v57_1, v57_2, v57_5, v57_8, v57_9, v57_12, v57_13, v57_14, v57_17, v57_20, v57_21, v57_22, v57_23, v57_26, v57_27, v57_28, v57_31, v57_32, v57_33, v57_36, v57_39, v57_40, v57_41, v57_42, v57_45, v57_46, v57_47, v57_50, v57_51, v57_52, e57, kb, f0, f1, f3, f4, f5, f6, vrf_s, true_and, true_or, or_true, and_self, not_false_eq_true, pu_s, pu_n, z2_e0, z2_n0, z2_t, z2_f, k110 hC, hs, Option.isSome_some, i10, reduceIte, s1, s2, c1, i1, x1, x2, c15 x2 x6 hb, hr, Bool.false_eq_true]
    | true =>
      cases hi : thI (aH A s').2.1 i with
      | none =>
        rw [hi] at ti
        simp only [v57_0, v57_1, v57_2, v57_5, v57_8, v57_9, v57_12, v57_13, v57_14, v57_17, v57_20, v57_21, v57_22, v57_23, v57_26, v57_27, v57_28, v57_31, v57_32, v57_33, v57_36, v57_39, v57_40, v57_41, v57_42, v57_45, v57_46, v57_47, v57_50, v57_51, v57_52, e57, kb, f0, f1, f3, f4, f5, f6, vrf_s, true_and, true_or, or_true, and_self, not_false_eq_true, pu_s, pu_n, z2_e0, z2_n0, z2_t, z2_f, k110 hC, hs, Option.isSome_some, i10, reduceIte, s1, s2, c1, i1, x1, x2, x7, c15 x2 x6 hb, hr, c123, ti, hi, Option.isSome_none, not_true_eq_false]
      | some i' =>
        rw [hi] at ti
        obtain ⟨rfl, hi'⟩ := thI_s (by omega) hi
        have c2 : (nI i').toNatClampNeg = i' := nIc (by omega)
        have i2 : inb (nI i') 40 = True := nIb (by omega) (by omega)
        simp only [v57_0, v57_1, v57_2, v57_5, v57_8, v57_9, v57_12, v57_13, v57_14, v57_17, v57_20, v57_21, v57_22, v57_23, v57_26, v57_27, v57_28, v57_31, v57_32, v57_33, v57_36, v57_39, v57_40, v57_41, v57_42, v57_45, v57_46, v57_47, v57_50, v57_51, v57_52, e57, kb, f0, f1, f3, f4, f5, f6, vrf_s, true_and, true_or, or_true, and_self, not_false_eq_true, pu_s, pu_n, z2_e0, z2_n0, z2_t, z2_f, k110 hC, hs, Option.isSome_some, i10, reduceIte, s1, s2, c1, i1, c2, i2, x1, x2, x3, x4, x5, x7, c15 x2 x6 hb, hr, c123, ti, hi, x8 i' (by omega)]
theorem k58 (hC : CL b A h) (s : Int32) : AM 58 [.ref b, .int s] h K = K (some (.int (oHld A s))) h := by
  obtain ⟨⟨cn, kb, f0, f1, f3, f4, f5, f6⟩, hST, hKP, hTR, hTA, ⟨s1, s2, s3⟩, hRF⟩ := id hC
  unfold oHld
  cases hs : rgI 0 7 s with
  | none => simp only [v58_0, v58_1, v58_2, v58_5, v58_8, v58_9, v58_12, v58_13, v58_14, v58_17, v58_20, v58_21, e58, kb, f0, f1, f3, f4, f5, f6, vrf_s, true_and, true_or, or_true, and_self, not_false_eq_true, pu_s, pu_n, z2_e0, z2_n0, z2_t, z2_f, k110 hC, hs, Option.isSome_none, reduceIte]
  | some s' =>
    obtain ⟨rfl, -, hs7⟩ := rgI_s (by decide) (by decide) hs
    obtain ⟨x1, x2, x3, x4, x5, x6, x7, x8⟩ := s3 s' (by omega)
    have c1 : (nI s').toNatClampNeg = s' := nIc (by omega)
    have i1 : inb (nI s') 8 = True := nIb (by omega) (by omega)
    simp only [v58_0, v58_1, v58_2, v58_5, v58_8, v58_9, v58_12, v58_13, v58_14, v58_17, v58_20, v58_21, e58, kb, f0, f1, f3, f4, f5, f6, vrf_s, true_and, true_or, or_true, and_self, not_false_eq_true, pu_s, pu_n, z2_e0, z2_n0, z2_t, z2_f, k110 hC, hs, Option.isSome_some, i10, reduceIte, s1, s2, c1, i1, x1, x2, x6]
theorem k59 (hC : CL b A h) (hW : WF A) (s t : Int32) (kk : ∀ h2, Fr (CW b) h h2 → CL b (oShw A s t).1 h2 → K (some (.int (oShw A s t).2)) h2) : AM 59 [.ref b, .int s, .int t] h K := by
  obtain ⟨⟨cn, kb, f0, f1, f3, f4, f5, f6⟩, hST, hKP, hTR, hTA, ⟨s1, s2, s3⟩, hRF⟩ := id hC
  unfold oShw at kk
  cases hs : rgI 0 7 s with
  | none =>
    rw [hs] at kk
    simp only [v59_0, v59_1, v59_2, v59_5, v59_8, v59_9, v59_10, v59_13, v59_14, v59_15, v59_18, v59_21, v59_22, v59_24, v59_27, v59_28, v59_29, v59_32, v59_33, v59_34, v59_35, v59_36, v59_39, v59_40, v59_43, v59_45, v59_46, v59_47, v59_50, v59_51, e59, kb, f0, f1, f3, f4, f5, f6, vrf_s, true_and, true_or, or_true, and_self, not_false_eq_true, pu_s, pu_n, z2_e0, z2_n0, z2_t, z2_f, k110 hC, hs, Option.isSome_none, reduceIte]
    exact k108 (w := 0) hC hW (by decide) (by decide) (fun h2 q2 hC2 => by simp only [pu_s, v59_27]; exact kk h2 q2 hC2)
  | some s' =>
    rw [hs] at kk
    obtain ⟨rfl, -, hs7⟩ := rgI_s (by decide) (by decide) hs
    obtain ⟨x1, x2, x3, x4, x5, x6, x7, x8⟩ := s3 s' (by omega)
    have c1 : (nI s').toNatClampNeg = s' := nIc (by omega)
    have i1 : inb (nI s') 8 = True := nIb (by omega) (by omega)
    have q3 : ∀ x : Int32, Fr (fun x _ => x = b + 122 + 2 * s' ∨ x = b + 123 + 2 * s') h (pI h (b + 122 + 2 * s') 0 x) := fun x => Fr.rf.pI (Or.inl rfl)
    by_cases g : t = -1
    · subst g
      simp only [reduceIte] at kk
      simp only [v59_0, v59_1, v59_2, v59_5, v59_8, v59_9, v59_10, v59_13, v59_14, v59_15, v59_18, v59_21, v59_22, v59_24, v59_27, v59_28, v59_29, v59_32, v59_33, v59_34, v59_35, v59_36, v59_39, v59_40, v59_43, v59_45, v59_46, v59_47, v59_50, v59_51, e59, kb, f0, f1, f3, f4, f5, f6, vrf_s, true_and, true_or, or_true, and_self, not_false_eq_true, pu_s, pu_n, z2_e0, z2_n0, z2_t, z2_f, k110 hC, hs, Option.isSome_some, i10, reduceIte, s1, s2, c1, i1, x1, x2, gI_pJ, gI_pR, gJ_pI, gJ_pR, gR_pI, gR_pJ, gK_pI, gK_pJ, gK_pR, gN_pI, gN_pJ, gN_pR, gX_pI, gX_pJ, gX_pR, gS_pI, gS_pJ, gS_pR, gK_cpI, gN_cpI, gK_cpJ, gN_cpJ, gR_cpI, gR_cpJ, gJ_cpI, gI_cpJ]
      refine kk _ ((q3 _).mo (fun x j z => by unfold CW; omega)) (hC.uh hW (q3 _) (fun x j z => by omega) (SHC.put ⟨s1, s2, s3⟩ (by omega) (q3 _) x3 (gI_at _ _ _ _) ?_ x8))
      rw [gI_ne (by omega)]
      exact x7
    · dsimp only at kk
      rw [if_neg g] at kk
      cases ht : thI (sN (aS A)) t with
      | none =>
        rw [ht] at kk
        simp only [v59_0, v59_1, v59_2, v59_5, v59_8, v59_9, v59_10, v59_13, v59_14, v59_15, v59_18, v59_21, v59_22, v59_24, v59_27, v59_28, v59_29, v59_32, v59_33, v59_34, v59_35, v59_36, v59_39, v59_40, v59_43, v59_45, v59_46, v59_47, v59_50, v59_51, e59, kb, f0, f1, f3, f4, f5, f6, vrf_s, true_and, true_or, or_true, and_self, not_false_eq_true, pu_s, pu_n, z2_e0, z2_n0, z2_t, z2_f, k110 hC, hs, Option.isSome_some, i10, reduceIte, g, k111 hC hW, ht, Option.isSome_none]
        exact k108 (w := 0) hC hW (by decide) (by decide) (fun h2 q2 hC2 => by simp only [pu_s, v59_27]; exact kk h2 q2 hC2)
      | some t' =>
        rw [ht] at kk
        have hn := hW.1.1
        obtain ⟨rfl, ht'⟩ := thI_s (by omega) ht
        have e10 : (10 : Int32) + nI t' = nI (10 + t') := nI_add 10 t'
        simp only [v59_0, v59_1, v59_2, v59_5, v59_8, v59_9, v59_10, v59_13, v59_14, v59_15, v59_18, v59_21, v59_22, v59_24, v59_27, v59_28, v59_29, v59_32, v59_33, v59_34, v59_35, v59_36, v59_39, v59_40, v59_43, v59_45, v59_46, v59_47, v59_50, v59_51, e59, kb, f0, f1, f3, f4, f5, f6, vrf_s, true_and, true_or, or_true, and_self, not_false_eq_true, pu_s, pu_n, z2_e0, z2_n0, z2_t, z2_f, k110 hC, hs, Option.isSome_some, i10, reduceIte, g, k111 hC hW, ht, s1, s2, c1, i1, x1, x2, e10, gI_pJ, gI_pR, gJ_pI, gJ_pR, gR_pI, gR_pJ, gK_pI, gK_pJ, gK_pR, gN_pI, gN_pJ, gN_pR, gX_pI, gX_pJ, gX_pR, gS_pI, gS_pJ, gS_pR, gK_cpI, gN_cpI, gK_cpJ, gN_cpJ, gR_cpI, gR_cpJ, gJ_cpI, gI_cpJ]
        refine kk _ ((q3 _).mo (fun x j z => by unfold CW; omega)) (hC.uh hW (q3 _) (fun x j z => by omega) (SHC.put ⟨s1, s2, s3⟩ (by omega) (q3 _) x3 (gI_at _ _ _ _) ?_ x8))
        rw [gI_ne (by omega)]
        exact x7
end
