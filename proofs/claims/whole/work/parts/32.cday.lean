/-! THE CLASS'S MORNING: open, nextHour, close -/
/-- what a morning writes -/
def OW (o : Nat) (x j : Nat) : Prop := (x = o + 1 ∨ x = o + 2 ∨ x = o + 3 ∨ x = o + 4 ∨ x = o + 6) ∨ (x = o ∧ (j = 4 ∨ j = 5 ∨ j = 6 ∨ j = 7 ∨ j = 12 ∨ j = 13 ∨ j = 14))
section
variable {o a : Nat} {ρ β : Nat → Nat} {s : SG} {h h1 : Hp} {K : Option Value → Hp → Prop}
theorem OSh.ow (hS : OSh o a h) (q : Fr (OW o) h h1) : OSh o a h1 := by
  obtain ⟨w1, w2, w3, w4, w5, w6, w7, w8, w9, w10, w11, w12, w13, w14, w15, w16, w17, w18, w19, w20⟩ := hS
  have nF : ∀ j, ¬ (j = 4 ∨ j = 5 ∨ j = 6 ∨ j = 7 ∨ j = 12 ∨ j = 13 ∨ j = 14) → ¬ OW o o j := fun j h1 z => by unfold OW at z; omega
  exact ⟨q.k.trans w1, (q.r (nF _ (by decide))).trans w2, (q.r (nF _ (by decide))).trans w3, (q.r (nF _ (by decide))).trans w4, (q.r (nF _ (by decide))).trans w5, (q.r (nF _ (by decide))).trans w6, (q.r (nF _ (by decide))).trans w7, (q.r (nF _ (by decide))).trans w8, q.k.trans w9, q.k.trans w10, q.k.trans w11, q.k.trans w12, q.k.trans w13, q.k.trans w14, q.n.trans w15, q.n.trans w16, q.n.trans w17, q.n.trans w18, q.n.trans w19, q.n.trans w20⟩
theorem OT.ow {cap : Option (Nat × Nat)} (hT : OT o s cap h) (q : Fr (OW o) h h1) : OT o s cap h1 := ⟨(q.i (fun z => by unfold OW at z; omega)).trans hT.1, fun so t d h1 h2 h3 => (q.i (fun z => by unfold OW at z; omega)).trans (hT.2 so t d h1 h2 h3)⟩
theorem SQ.ow (hQ : SQ a ρ β h) (ho : a + 36 ≤ o) (q : Fr (OW o) h h1) : SQ a ρ β h1 := hQ.fr q (fun u j z => by unfold OW at z; omega)
theorem SV.ow (hP : SV a ρ β s h) (hQ : SQ a ρ β h) (hO : SOk s) (ho : a + 36 ≤ o) (q : Fr (OW o) h h1) : SV a ρ β s h1 := SV.fr hQ hP hO q (fun u j z => by unfold OW at z; omega)
theorem rmN_congr {f g : Nat → Bool} {hr : Nat} : ∀ t : Nat, (∀ u, u < t → f u = g u) → rmN s f hr t = rmN s g hr t
  | 0, _ => rfl
  | t + 1, hc => by unfold rmN; rw [rmN_congr t (fun u hu => hc u (by omega)), hc t (by omega)]
theorem onN_congr {f g : Nat → Bool} {hr t : Nat} (hc : ∀ u, u ≤ t → f u = g u) : onN s f hr t = onN s g hr t := by
  unfold onN
  rw [rmN_congr t (fun u hu => hc u (by omega)), hc t (Nat.le_refl _)]
theorem msk_congr {f g : Nat → Bool} : ∀ n : Nat, (∀ t, t < n → f t = g t) → msk f n = msk g n
  | 0, _ => rfl
  | n + 1, hc => by unfold msk; rw [msk_congr n (fun t ht => hc t (by omega)), hc n (by omega)]
theorem onM_congr (hO : SOk s) (sold : Nat → Bool) (hr : Nat) : msk (onN s (msk sold 8).testBit hr) (sN s) = msk (onN s sold hr) (sN s) := msk_congr _ (fun t ht => onN_congr (fun u hu => by
  have := hO.1
  rw [msk_t, decide_eq_true (by omega), Bool.true_and]))
/-- prices and what is on, for an hour -/
def HR (o : Nat) (s : SG) (sold : Nat → Bool) (hr : Nat) (h : Hp) : Prop := (∀ t, t < sN s → gI h (o + 6) t = nI (prN s t hr)) ∧ gI h o 14 = nI (msk (onN s sold hr) (sN s))
theorem c9_l (ho : a + 36 ≤ o) (hS : OSh o a h) (hQ : SQ a ρ β h) (hP : SV a ρ β s h) (hO : SOk s) {hr : Nat} (hh : hr ≤ 6) {sold : Nat → Bool} (hs : gI h o 13 = nI (msk sold 8)) (kk : ∀ h2, Fr (OW o) h h2 → Fr (fun x j => x = o + 6 ∨ (x = o ∧ j = 14)) h h2 → HR o s sold hr h2 → K none h2) :
    ∀ (j t : Nat) (h1 : Hp), t + j = sN s → Fr (fun x j => x = o + 6 ∨ (x = o ∧ j = 14)) h h1 → (∀ u, u < t → gI h1 (o + 6) u = nI (prN s u hr)) → V 9 2 [.ref o, .int (nI hr), .int (nI t)] [] h1 K := by
  have hn8 := hO.1
  intro j
  induction j with
  | zero =>
    intro t h1 hi hf hz
    have e : t = sN s := by omega
    subst e
    have q := hf.mo (G := OW o) (fun x j z => by unfold OW; omega)
    have hS1 := hS.ow q
    have hQ1 := hQ.ow ho q
    have hP1 := hP.ow hQ hO ho q
    obtain ⟨w1, w2, w3, w4, w5, w6, w7, w8, -⟩ := id hS1
    have s1 := hQ1.1
    have e8 : (nI (sN s) ≤ nI (sN s)) = True := eq_true (nI_le (Nat.le_refl _) (by omega))
    have e13 : gI h1 o 13 = nI (msk sold 8) := (hf.i (fun z => by omega)).trans hs
    have rc : rcK 29 3 = true := by decide +kernel
    simp only [v9_0, v9_1, v9_2, v9_3, v9_4, v9_7, v9_10, v9_13, v9_14, v9_17, v9_18, v9_19, v9_22, v9_23, v9_24, v9_27, v9_28, v9_34, v9_35, v9_36, v9_39, v9_40, v9_41, v9_44, v9_47, v9_50, w1, w8, vrf_s, s1, hP1.1, e8, reduceIte, true_and, e13, c29 hQ1 hP1 hO hh, pu_s, onM_congr hO]
    refine kk _ (q.pI (Or.inr ⟨rfl, by omega⟩)) (hf.pI (Or.inr ⟨rfl, rfl⟩)) ⟨fun t ht => ?_, gI_at _ _ _ _⟩
    rw [gI_ne (by omega)]
    exact hz t ht
  | succ j ih =>
    intro t h1 hi hf hz
    have ht : t < sN s := by omega
    have q := hf.mo (G := OW o) (fun x j z => by unfold OW; omega)
    have hS1 := hS.ow q
    have hQ1 := hQ.ow ho q
    have hP1 := hP.ow hQ hO ho q
    obtain ⟨w1, w2, w3, w4, w5, w6, w7, w8, w9, w10, w11, w12, w13, w14, w15, w16, w17, w18, w19, w20⟩ := id hS1
    have s1 := hQ1.1
    have lt : (nI (sN s) ≤ nI t) = False := eq_false (nI_ge ht (by omega))
    have c1 : (nI t).toNatClampNeg = t := nIc (by omega)
    have i1 : inb (nI t) 8 = True := nIb (by omega) (by omega)
    simp only [v9_0, v9_1, v9_2, v9_3, v9_4, v9_7, v9_10, v9_13, v9_14, v9_17, v9_18, v9_19, v9_22, v9_23, v9_24, v9_27, v9_28, v9_34, v9_35, v9_36, v9_39, v9_40, v9_41, v9_44, v9_47, v9_50, w1, w7, w8, w14, w20, vrf_s, s1, hP1.1, lt, reduceIte, true_and, c28 hQ1 hP1 hO ht hh, pu_s, c1, i1, and_self, nI_1]
    rw [v9_31]
    refine ih (t + 1) _ (by omega) (hf.pI (Or.inl rfl)) (fun u hu => ?_)
    by_cases e : u = t
    · subst e; exact gI_at _ _ _ _
    · rw [gI_ne (fun z => e z.2)]
      exact hz u (by omega)
/-- nextHour -/
theorem c9 (ho : a + 36 ≤ o) (hS : OSh o a h) (hQ : SQ a ρ β h) (hP : SV a ρ β s h) (hO : SOk s) {hr : Nat} (hh : hr ≤ 6) {sold : Nat → Bool} (hs : gI h o 13 = nI (msk sold 8)) (kk : ∀ h2, Fr (OW o) h h2 → Fr (fun x j => x = o + 6 ∨ (x = o ∧ j = 14)) h h2 → HR o s sold hr h2 → K none h2) : AM 9 [.ref o, .int (nI hr)] h K := by
  simp only [e9, v9_0, v9_1]
  exact c9_l ho hS hQ hP hO hh hs kk (sN s) 0 h (Nat.zero_add _) Fr.rf (fun t ht => absurd ht (Nat.not_lt_zero t))
theorem c8_a (hS : OSh o a h) {K : Option Value → Hp → Prop} (kk : ∀ (h2 : Hp), Fr (fun x j => x = o + 1) h h2 → (∀ t, t < 8 → gI h2 (o + 1) t = -1) → V 8 41 [.ref o, .int (nI 8)] [] h2 K) :
    ∀ (j t : Nat) (h1 : Hp), t + j = 8 → Fr (fun x j => x = o + 1) h h1 → (∀ u, u < t → gI h1 (o + 1) u = -1) → V 8 22 [.ref o, .int (nI t)] [] h1 K := by
  intro j
  induction j with
  | zero =>
    intro t h1 hi hf hz
    have e : t = 8 := by omega
    subst e
    have e8 : ((8 : Int32) ≤ nI 8) = True := eq_true (by decide)
    simp only [v8_22, v8_23, v8_25, e8, reduceIte]
    exact kk h1 hf hz
  | succ j ih =>
    intro t h1 hi hf hz
    have hS1 := hS.ow (hf.mo (G := OW o) (fun x j z => by unfold OW; omega))
    obtain ⟨w1, w2, w3, w4, w5, w6, w7, w8, w9, w10, w11, w12, w13, w14, w15, w16, w17, w18, w19, w20⟩ := id hS1
    have e8 : ((8 : Int32) ≤ nI t) = False := eq_false (nI_ge (b := 8) (by omega) (by decide))
    have c1 : (nI t).toNatClampNeg = t := nIc (by omega)
    have i1 : inb (nI t) 8 = True := nIb (by omega) (by omega)
    simp only [v8_22, v8_23, v8_25, v8_28, v8_29, v8_32, v8_33, v8_34, v8_35, e8, reduceIte, w1, w2, w9, w15, vrf_s, true_and, and_self, c1, i1, nI_1]
    rw [v8_38]
    refine ih (t + 1) _ (by omega) (hf.pI rfl) (fun u hu => ?_)
    by_cases e : u = t
    · subst e; exact gI_at _ _ _ _
    · rw [gI_ne (fun z => e z.2)]
      exact hz u (by omega)
theorem c8_b (hS : OSh o a h) {K : Option Value → Hp → Prop} (kk : ∀ (h2 : Hp), Fr (fun x j => x = o + 4) h h2 → (∀ t, t < 7 → gI h2 (o + 4) t = 0) → K none h2) :
    ∀ (j t : Nat) (h1 : Hp), t + j = 7 → Fr (fun x j => x = o + 4) h h1 → (∀ u, u < t → gI h1 (o + 4) u = 0) → V 8 43 [.ref o, .int (nI t)] [] h1 K := by
  intro j
  induction j with
  | zero =>
    intro t h1 hi hf hz
    have e : t = 7 := by omega
    subst e
    have e8 : ((7 : Int32) ≤ nI 7) = True := eq_true (by decide)
    simp only [v8_43, v8_44, v8_46, e8, reduceIte, v8_62]
    exact kk h1 hf hz
  | succ j ih =>
    intro t h1 hi hf hz
    have hS1 := hS.ow (hf.mo (G := OW o) (fun x j z => by unfold OW; omega))
    obtain ⟨w1, w2, w3, w4, w5, w6, w7, w8, w9, w10, w11, w12, w13, w14, w15, w16, w17, w18, w19, w20⟩ := id hS1
    have e8 : ((7 : Int32) ≤ nI t) = False := eq_false (nI_ge (b := 7) (by omega) (by decide))
    have c1 : (nI t).toNatClampNeg = t := nIc (by omega)
    have i1 : inb (nI t) 7 = True := nIb (by omega) (by omega)
    simp only [v8_43, v8_44, v8_46, v8_49, v8_50, v8_53, v8_54, v8_55, v8_56, e8, reduceIte, w1, w5, w12, w18, vrf_s, true_and, and_self, c1, i1, nI_1]
    rw [v8_59]
    refine ih (t + 1) _ (by omega) (hf.pI rfl) (fun u hu => ?_)
    by_cases e : u = t
    · subst e; exact gI_at _ _ _ _
    · rw [gI_ne (fun z => e z.2)]
      exact hz u (by omega)
/-- open -/
theorem c8 (hS : OSh o a h) (kk : ∀ h2, Fr (OW o) h h2 → (∀ t, t < 8 → gI h2 (o + 1) t = -1) → (∀ t, t < 7 → gI h2 (o + 4) t = 0) → gI h2 o 4 = 0 → gI h2 o 12 = 0 → gI h2 o 13 = 0 → K none h2) : AM 8 [.ref o] h K := by
  have w1 := hS.1
  simp only [e8, v8_0, v8_1, v8_2, v8_5, v8_6, v8_7, v8_10, v8_11, v8_12, v8_15, v8_16, v8_17, v8_20, v8_21, w1, true_and, gI_pJ, gI_pR, gJ_pI, gJ_pR, gR_pI, gR_pJ, gK_pI, gK_pJ, gK_pR, gN_pI, gN_pJ, gN_pR, gX_pI, gX_pJ, gX_pR, gS_pI, gS_pJ, gS_pR, gK_cpI, gN_cpI, gK_cpJ, gN_cpJ, gR_cpI, gR_cpJ, gJ_cpI, gI_cpJ]
  generalize hh2 : pI (pI (pI (pI h o 4 0) o 12 0) o 13 0) o 14 0 = h2
  have q2 : Fr (OW o) h h2 := by
    rw [← hh2]
    exact (((Fr.rf.pI (Or.inr ⟨rfl, by omega⟩)).pI (Or.inr ⟨rfl, by omega⟩)).pI (Or.inr ⟨rfl, by omega⟩)).pI (Or.inr ⟨rfl, by omega⟩)
  have e4 : gI h2 o 4 = 0 := by rw [← hh2, gI_ne (by omega), gI_ne (by omega), gI_ne (by omega), gI_at]
  have e12 : gI h2 o 12 = 0 := by rw [← hh2, gI_ne (by omega), gI_ne (by omega), gI_at]
  have e13 : gI h2 o 13 = 0 := by rw [← hh2, gI_ne (by omega), gI_at]
  refine c8_a (hS.ow q2) (fun h3 q3 hz3 => ?_) 8 0 h2 rfl Fr.rf (fun t ht => absurd ht (Nat.not_lt_zero t))
  have q3' : Fr (OW o) h h3 := q2.tr (q3.mo (fun x j z => by unfold OW; omega))
  simp only [v8_41, v8_42]
  refine c8_b (hS.ow q3') (fun h4 q4 hz4 => ?_) 7 0 h3 rfl Fr.rf (fun t ht => absurd ht (Nat.not_lt_zero t))
  have q34 : ∀ j, gI h4 o j = gI h2 o j := fun j => (q4.i (fun z => by omega)).trans (q3.i (fun z => by omega))
  exact kk h4 (q3'.tr (q4.mo (fun x j z => by unfold OW; omega))) (fun t ht => (q4.i (fun z => by omega)).trans (hz3 t ht)) hz4 ((q34 4).trans e4) ((q34 12).trans e12) ((q34 13).trans e13)
end
