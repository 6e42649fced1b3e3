/-! STATEMENTS, in numbers; the class reads them -/
def rdB (T : TKN) (lo hi : Int32) : Bool := decide (kT T = 2) && decide (eT T - sT0 T ≤ 2) && inI (nI (vT T)) lo hi
def rd1 (s : SG) (p : TPE) (T : TKN) (lo hi : Int32) (k : TKN → Bool × SG × TKN) : Bool × SG × TKN := if rdB (nxT p T) lo hi = true then k (nxT p T) else (false, s, nxT p T)
def wTh : List Nat := [116, 104, 105, 110, 103]
def wBy : List Nat := [98, 117, 121, 101, 114]
def wMk : List Nat := [109, 97, 114, 107]
def wFr : List Nat := [102, 114, 111, 109]
def wFe : List Nat := [102, 101, 101, 116]
def wFa : List Nat := [102, 97, 108, 108]
def wFd : List Nat := [102, 114, 105, 101, 110, 100]
def wTp : List Nat := [116, 105, 112]
def wWi : List Nat := [119, 105, 116, 104]
def thT (p : TPE) (s : SG) (T : TKN) : Bool × SG × TKN := if sN s < 8 then rd1 s p T 0 5 (fun T1 => rd1 s p T1 1 99 (fun T2 => rd1 s p T2 1 9 (fun T3 => rd1 s p T3 0 99 (fun T4 => if isW p (nxT p T4) wWi = true then rd1 s p (nxT p T4) 0 9 (fun T6 => (true, sgN s (vT T1) (vT T2) (vT T3) (vT T4) (vT T6), nxT p T6)) else (true, sgN s (vT T1) (vT T2) (vT T3) (vT T4) 0, nxT p T4))))) else (false, s, T)
def byT (p : TPE) (s : SG) (T : TKN) : Bool × SG × TKN := if sM s < 24 then rd1 s p T 0 6 (fun T1 => rd1 s p T1 0 3 (fun T2 => rd1 s p T2 1 99 (fun T3 => (true, sgB s (vT T1) (vT T2) (vT T3), nxT p T3)))) else (false, s, T)
def ceT (p : TPE) (s : SG) (T : TKN) (col : Nat) (hi : Int32) : Bool × SG × TKN := rd1 s p T 0 (nI (sN s) - 1) (fun T1 => rd1 s p T1 0 hi (fun T2 => (true, sgT s (vT T1) col (vT T2), nxT p T2)))
def asT (p : TPE) (s : SG) (T : TKN) (w : Nat) (lo hi : Int32) : Bool × SG × TKN := rd1 s p T lo hi (fun T1 => (true, sgA s w (vT T1), nxT p T1))
def stm (p : TPE) (s : SG) (T : TKN) : Bool × SG × TKN := if isW p T wTh = true then thT p s T else if isW p T wBy = true then byT p s T else if isW p T wMk = true then ceT p s T 5 99 else if isW p T wFr = true then ceT p s T 6 7 else if isW p T wFe = true then asT p s T 0 1 30 else if isW p T wFa = true then asT p s T 1 0 14 else if isW p T wFd = true then asT p s T 2 0 1 else if isW p T wTp = true then asT p s T 3 0 9 else (false, s, T)
theorem rdB_s {T : TKN} {lo hi : Int32} {l m : Nat} (h : rdB T lo hi = true) (hv : vT T ≤ 99) (hl : lo = nI l) (hm : hi = nI m) (hl1 : l ≤ 1000) (hm1 : m ≤ 1000) : l ≤ vT T ∧ vT T ≤ m := by
  unfold rdB at h
  rw [Bool.and_eq_true] at h
  subst hl hm
  have := h.2
  rw [inN (by omega) (by omega) (by omega), Bool.and_eq_true, decide_eq_true_eq, decide_eq_true_eq] at this
  exact this
theorem rdB_n {T : TKN} {n : Nat} (h : rdB T 0 (nI n - 1) = true) (hv : vT T ≤ 99) (hn : n ≤ 1000) : vT T < n := by
  unfold rdB at h
  rw [Bool.and_eq_true] at h
  have h2 := h.2
  rw [thI_I (by omega)] at h2
  cases ht : thI n (nI (vT T)) with
  | none => rw [ht] at h2; cases h2
  | some k =>
    obtain ⟨e1, e2⟩ := thI_s (by omega) ht
    have := (nI_eq (by omega) (by omega)).mp e1
    omega
def SW (b x j : Nat) : Prop := NW b x j ∨ x = b + 119 ∨ (b + 74 ≤ x ∧ x < b + 110 ∧ ¬ (x = b + 74 ∧ 5 ≤ j))
section
variable {b a : Nat} {p : TPE} {T : TKN} {s : SG} {ρ β : Nat → Nat} {h h1 : Hp} {K : Option Value → Hp → Prop}
/-- what the class reads from -/
def RD (b : Nat) (p : TPE) (T : TKN) (s : SG) (ρ β : Nat → Nat) (h : Hp) : Prop := CN b h ∧ CT b p T h ∧ TOk p T ∧ p.1 ≤ 250 ∧ (∀ j, j < p.1 → p.2 j ≤ 255) ∧ SQ (b + 74) ρ β h ∧ SV (b + 74) ρ β s h ∧ SOk s
theorem RD.nx (hR : RD b p T s ρ β h) (w : Fr (NW b) h h1) (hC : CT b p (nxT p T) h1) : RD b p (nxT p T) s ρ β h1 := by
  obtain ⟨r1, r2, r3, r4, r5, r6, r7, r8⟩ := hR
  have hF : ∀ u j, NW b u j → u < b + 74 ∨ b + 74 + 36 ≤ u := fun u j z => by unfold NW at z; omega
  exact ⟨r1.fr w (fun a j z => by unfold NW at z; omega), hC, (tok_ok r3.2.2.1).1, r4, r5, r6.fr w hF, SV.fr r6 r7 r8 w hF, r8⟩
theorem RD.nm (hR : RD b p T s ρ β h) {k : Nat} {v : Int32} : RD b p T s ρ β (pI h (b + 119) k v) := by
  obtain ⟨r1, r2, r3, r4, r5, r6, r7, r8⟩ := hR
  have w : Fr (fun x j => x = b + 119) h (pI h (b + 119) k v) := Fr.rf.pI rfl
  have hF : ∀ u j : Nat, u = b + 119 → u < b + 74 ∨ b + 74 + 36 ≤ u := fun u j z => by omega
  exact ⟨r1.fr w (fun a j z => by omega), ⟨r2.1.fr r4 w (fun u j z => by omega), by rw [gI_ne (by omega)]; exact r2.2.1, by rw [gI_ne (by omega)]; exact r2.2.2.1, by rw [gI_ne (by omega)]; exact r2.2.2.2.1, by rw [gI_ne (by omega)]; exact r2.2.2.2.2⟩, r3, r4, r5, r6.fr w hF, SV.fr r6 r7 r8 w hF, r8⟩
/-- the next token -/
theorem rnx (hR : RD b p T s ρ β h) (kk : ∀ h2, Fr (NW b) h h2 → RD b p (nxT p T) s ρ β h2 → K none h2) : AM 40 [.ref (b + 117)] h K := by
  obtain ⟨r1, r2, r3, r4, r5, r6, r7, r8⟩ := id hR
  exact c40 r2.1 r4 r5 r3.2.2.1 r2.2.2.2.1 (fun h2 q2 hC2 => kk h2 q2 (hR.nx q2 hC2))
/-- readNumber -/
theorem c38 (hR : RD b p T s ρ β h) (lo hi : Int32) : AM 38 [.ref (b + 117), .int lo, .int hi] h K = K (some (.int (z2 (rdB T lo hi)))) h := by
  obtain ⟨r1, ⟨⟨t1, t2, t3, t4, t5, t6, t7, t8, t9⟩, u1, u2, u3, u4⟩, r3, r4, r5, r6, r7, r8⟩ := id hR
  obtain ⟨o1, o2, o3, o4, o5⟩ := r3
  have e1 : (nI (kT T) = 2) = (kT T = 2) := neqN (c := 2) (by omega) (by decide)
  have e2 : nI (eT T) - nI (sT0 T) = nI (eT T - sT0 T) := nI_subN o2
  have e3 : (2 < nI (eT T - sT0 T)) = (2 < eT T - sT0 T) := nltN (a := 2) (by decide) (by omega)
  unfold rdB
  by_cases g1 : kT T = 2
  · have g1' : (kT T = 2) = True := eq_true g1
    by_cases g2 : 2 < eT T - sT0 T
    · have g2' : (2 < eT T - sT0 T) = True := eq_true g2
      have g3 : ¬ eT T - sT0 T ≤ 2 := by omega
      simp only [e38, v38_0, v38_1, v38_4, v38_5, v38_8, v38_9, v38_12, v38_13, v38_16, v38_17, v38_18, v38_37, v38_38, t1, u1, u2, u3, e1, g1', e2, e3, g2', bo_0, not_true_eq_false, true_and, reduceIte]
      rw [decide_eq_false g3, Bool.and_false, Bool.false_and]
      rfl
    · have g2' : (2 < eT T - sT0 T) = False := eq_false g2
      have g3 : eT T - sT0 T ≤ 2 := by omega
      rw [decide_eq_true g1, decide_eq_true g3, Bool.true_and, Bool.true_and]
      cases g4 : inI (nI (vT T)) lo hi with
      | true => simp only [e38, v38_0, v38_1, v38_4, v38_5, v38_8, v38_9, v38_12, v38_13, v38_16, v38_17, v38_18, v38_21, v38_22, v38_25, v38_26, v38_27, v38_30, v38_33, v38_34, v38_38, t1, u1, u2, u3, u4, e1, g1', e2, e3, g2', c123, g4, pu_s, z2_t, i10, bo_1, not_true_eq_false, true_and, reduceIte]
      | false => simp only [e38, v38_0, v38_1, v38_4, v38_5, v38_8, v38_9, v38_12, v38_13, v38_16, v38_17, v38_18, v38_21, v38_22, v38_25, v38_26, v38_27, v38_30, v38_37, v38_38, t1, u1, u2, u3, u4, e1, g1', e2, e3, g2', c123, g4, pu_s, z2_f, bo_0, not_true_eq_false, true_and, reduceIte]
  · rw [decide_eq_false g1, Bool.false_and, Bool.false_and, z2_f]
    simp only [e38, v38_0, v38_1, v38_4, v38_5, v38_37, v38_38, t1, u1, e1, g1, bo_0, not_false_eq_true, true_and, reduceIte]
def NBk (b k x j : Nat) : Prop := NW b x j ∨ (x = b + 119 ∧ j = k)
theorem c34_s (hR : RD b p T s ρ β h) {k : Nat} (hk : k ≤ 3) {lo hi : Int32} (hl : tbv 2 k = lo) (hm : tbv 3 k = hi) (v1 : Value) (kf : rdB T lo hi = false → K (some (.int 0)) h) (kt : rdB T lo hi = true → ∀ h2, Fr (NBk b k) h h2 → RD b p (nxT p T) s ρ β h2 → gI h2 (b + 119) k = nI (vT T) → V 34 17 [.ref (b + 117), v1, .int (nI (k + 1))] [] h2 K) : V 34 17 [.ref (b + 117), v1, .int (nI k)] [] h K := by
  subst hl hm
  obtain ⟨cn, ⟨⟨t1, t2, t3, t4, t5, t6, t7, t8, t9⟩, u1, u2, u3, u4⟩, r3, r4, r5, r6, r7, r8⟩ := id hR
  obtain ⟨a2, y1, y2, y3, y4⟩ := cn.tb (j := 2) (by decide)
  obtain ⟨a3, z1, z2', z3, z4⟩ := cn.tb (j := 3) (by decide)
  have n2 : gN h a2 = 7 := y3
  have n3 : gN h a3 = 7 := z3
  have e2 : gI h a2 k = tbv 2 k := y4 k (by show k < 7; omega)
  have e3 : gI h a3 k = tbv 3 k := z4 k (by show k < 7; omega)
  have c1 : (nI k).toNatClampNeg = k := nIc (by omega)
  have i1 : inb (nI k) 7 = True := nIb (by omega) (by omega)
  have e8 : (3 < nI k) = False := by rw [show ((3 : Int32) < nI k) = (3 < k) from nltN (a := 3) (by decide) (by omega)]; exact eq_false (by omega)
  cases g : rdB T (tbv 2 k) (tbv 3 k) with
  | false =>
    simp only [v34_17, v34_18, v34_19, v34_22, v34_23, v34_26, v34_27, v34_28, v34_31, v34_32, v34_33, v34_36, v34_39, v34_40, t1, e8, y1, y2, z1, z2', n2, n3, c1, i1, e2, e3, c38 hR, g, pu_s, z2_f, bo_0, vrf_s, not_true_eq_false, true_and, true_or, or_true, and_self, reduceIte]
    exact kf g
  | true =>
    simp only [v34_17, v34_18, v34_19, v34_22, v34_23, v34_26, v34_27, v34_28, v34_31, v34_32, v34_33, v34_36, v34_41, v34_42, v34_45, v34_46, v34_47, v34_50, v34_51, v34_52, t1, t3, t6, t7, u4, e8, y1, y2, z1, z2', n2, n3, c1, i1, e2, e3, c38 hR, g, pu_s, z2_t, i10, vrf_s, gI_pJ, gI_pR, gJ_pI, gJ_pR, gR_pI, gR_pJ, gK_pI, gK_pJ, gK_pR, gN_pI, gN_pJ, gN_pR, gX_pI, gX_pJ, gX_pR, gS_pI, gS_pJ, gS_pR, gK_cpI, gN_cpI, gK_cpJ, gN_cpJ, gR_cpI, gR_cpJ, gJ_cpI, gI_cpJ, not_false_eq_true, true_and, true_or, or_true, and_self, reduceIte]
    refine rnx hR.nm (fun h2 q2 hR2 => ?_)
    simp only [pu_n, v34_55, nI_1]
    rw [v34_58]
    exact kt g h2 ((Fr.rf.pI (Or.inr ⟨rfl, rfl⟩)).tr (q2.mo (fun x j z => Or.inl z))) hR2 ((q2.i (fun z => by unfold NW at z; omega)).trans (gI_at _ _ _ _))
theorem c35_s (hR : RD b p T s ρ β h) {k : Nat} (hk : k ≤ 2) {lo hi : Int32} (hl : tbv 4 k = lo) (hm : tbv 5 k = hi) (v1 : Value) (kf : rdB T lo hi = false → K (some (.int 0)) h) (kt : rdB T lo hi = true → ∀ h2, Fr (NBk b k) h h2 → RD b p (nxT p T) s ρ β h2 → gI h2 (b + 119) k = nI (vT T) → V 35 17 [.ref (b + 117), v1, .int (nI (k + 1))] [] h2 K) : V 35 17 [.ref (b + 117), v1, .int (nI k)] [] h K := by
  subst hl hm
  obtain ⟨cn, ⟨⟨t1, t2, t3, t4, t5, t6, t7, t8, t9⟩, u1, u2, u3, u4⟩, r3, r4, r5, r6, r7, r8⟩ := id hR
  obtain ⟨a2, y1, y2, y3, y4⟩ := cn.tb (j := 4) (by decide)
  obtain ⟨a3, z1, z2', z3, z4⟩ := cn.tb (j := 5) (by decide)
  have n2 : gN h a2 = 3 := y3
  have n3 : gN h a3 = 3 := z3
  have e2 : gI h a2 k = tbv 4 k := y4 k (by show k < 3; omega)
  have e3 : gI h a3 k = tbv 5 k := z4 k (by show k < 3; omega)
  have c1 : (nI k).toNatClampNeg = k := nIc (by omega)
  have i1 : inb (nI k) 3 = True := nIb (by omega) (by omega)
  have i7 : inb (nI k) 7 = True := nIb (by omega) (by omega)
  have e8 : (2 < nI k) = False := by rw [show ((2 : Int32) < nI k) = (2 < k) from nltN (a := 2) (by decide) (by omega)]; exact eq_false (by omega)
  cases g : rdB T (tbv 4 k) (tbv 5 k) with
  | false =>
    simp only [v35_17, v35_18, v35_19, v35_22, v35_23, v35_26, v35_27, v35_28, v35_31, v35_32, v35_33, v35_36, v35_39, v35_40, t1, e8, y1, y2, z1, z2', n2, n3, c1, i1, e2, e3, c38 hR, g, pu_s, z2_f, bo_0, vrf_s, not_true_eq_false, true_and, true_or, or_true, and_self, reduceIte]
    exact kf g
  | true =>
    simp only [v35_17, v35_18, v35_19, v35_22, v35_23, v35_26, v35_27, v35_28, v35_31, v35_32, v35_33, v35_36, v35_41, v35_42, v35_45, v35_46, v35_47, v35_50, v35_51, v35_52, t1, t3, t6, t7, u4, e8, y1, y2, z1, z2', n2, n3, c1, i1, i7, e2, e3, c38 hR, g, pu_s, z2_t, i10, vrf_s, gI_pJ, gI_pR, gJ_pI, gJ_pR, gR_pI, gR_pJ, gK_pI, gK_pJ, gK_pR, gN_pI, gN_pJ, gN_pR, gX_pI, gX_pJ, gX_pR, gS_pI, gS_pJ, gS_pR, gK_cpI, gN_cpI, gK_cpJ, gN_cpJ, gR_cpI, gR_cpJ, gJ_cpI, gI_cpJ, not_false_eq_true, true_and, true_or, or_true, and_self, reduceIte]
    refine rnx hR.nm (fun h2 q2 hR2 => ?_)
    simp only [pu_n, v35_55, nI_1]
    rw [v35_58]
    exact kt g h2 ((Fr.rf.pI (Or.inr ⟨rfl, rfl⟩)).tr (q2.mo (fun x j z => Or.inl z))) hR2 ((q2.i (fun z => by unfold NW at z; omega)).trans (gI_at _ _ _ _))
theorem SW.nb {b k x j : Nat} (z : NBk b k x j) : SW b x j := by
  unfold NBk at z
  unfold SW
  rcases z with z | z
  · exact Or.inl z
  · exact Or.inr (Or.inl z.1)
/-- the contract of a statement that is read -/
def GK (b : Nat) (p : TPE) (r : Bool × SG × TKN) (h : Hp) (K : Option Value → Hp → Prop) : Prop := ∀ h2 ρ2 β2, Fr (SW b) h h2 → CT b p r.2.2 h2 → SQ (b + 74) ρ2 β2 h2 → SV (b + 74) ρ2 β2 r.2.1 h2 → K (some (.int (z2 r.1))) h2
theorem RD.gk (hR : RD b p T s ρ β h1) (w : Fr (SW b) h h1) (kk : GK b p (false, s, T) h K) : K (some (.int 0)) h1 := kk h1 ρ β w hR.2.1 hR.2.2.2.2.2.1 hR.2.2.2.2.2.2.1
theorem c34 (hR : RD b p T s ρ β h) (kk : GK b p (thT p s T) h K) : AM 34 [.ref (b + 117), .ref (b + 74)] h K := by
  obtain ⟨cn, ⟨⟨t1, -⟩, -⟩, -, -, -, hQ, hV, hO⟩ := id hR
  have k3 := hQ.1
  have hn8 := hO.1
  have e8 : (nI (sN s) < 8) = (sN s < 8) := nltN (c := 8) (by omega) (by decide)
  simp only [thT, rd1] at kk
  by_cases g8 : sN s < 8
  · rw [if_pos g8] at kk
    simp only [e34, v34_0, v34_1, v34_4, v34_6, v34_11, v34_12, k3, hV.1, e8, g8, t1, true_and, reduceIte]
    refine rnx hR (fun h1 q1 hR1 => ?_)
    simp only [pu_n, v34_15, v34_16]
    have w1 := q1.mo (G := SW b) (fun x j z => Or.inl z)
    refine c34_s (k := 0) (lo := 0) (hi := 5) hR1 (by decide) rfl rfl _ (fun g => ?_) (fun g h2 q2 hR2 y0 => ?_)
    · rw [if_neg (ne_true_of_eq_false g)] at kk
      exact hR1.gk w1 kk
    · rw [if_pos g] at kk
      have w2 := w1.tr (q2.mo (fun x j z => SW.nb z))
      refine c34_s (k := 1) (lo := 1) (hi := 99) hR2 (by decide) rfl rfl _ (fun g => ?_) (fun g h3 q3 hR3 y1 => ?_)
      · rw [if_neg (ne_true_of_eq_false g)] at kk
        exact hR2.gk w2 kk
      · rw [if_pos g] at kk
        have w3 := w2.tr (q3.mo (fun x j z => SW.nb z))
        refine c34_s (k := 2) (lo := 1) (hi := 9) hR3 (by decide) rfl rfl _ (fun g => ?_) (fun g h4 q4 hR4 y2 => ?_)
        · rw [if_neg (ne_true_of_eq_false g)] at kk
          exact hR3.gk w3 kk
        · rw [if_pos g] at kk
          have w4 := w3.tr (q4.mo (fun x j z => SW.nb z))
          refine c34_s (k := 3) (lo := 0) (hi := 99) hR4 (by decide) rfl rfl _ (fun g => ?_) (fun g h5 q5 hR5 y3 => ?_)
          · rw [if_neg (ne_true_of_eq_false g)] at kk
            exact hR4.gk w4 kk
          · rw [if_pos g] at kk
            have w5 := w4.tr (q5.mo (fun x j z => SW.nb z))
            have lt3 : ((3 : Int32) < nI (3 + 1)) = True := eq_true (by decide)
            obtain ⟨cn5, ⟨⟨t1, t2, t3, t4, t5, t6, t7, t8, t9⟩, u5⟩, ok5, -⟩ := id hR5
            have ib4 : inb (4 : Int32) 7 = True := eq_true (by decide)
            have tc4' : (4 : Int32).toNatClampNeg = 4 := by decide
            have z0 : gI h5 (b + 119) 0 = nI (vT (nxT p T)) := (q5.i (fun z => by unfold NBk NW at z; omega)).trans ((q4.i (fun z => by unfold NBk NW at z; omega)).trans ((q3.i (fun z => by unfold NBk NW at z; omega)).trans y0))
            have z1 : gI h5 (b + 119) 1 = nI (vT (nxT p (nxT p T))) := (q5.i (fun z => by unfold NBk NW at z; omega)).trans ((q4.i (fun z => by unfold NBk NW at z; omega)).trans y1)
            have z2' : gI h5 (b + 119) 2 = nI (vT (nxT p (nxT p (nxT p T)))) := (q5.i (fun z => by unfold NBk NW at z; omega)).trans y2
            have hR6 := hR5.nm (k := 4) (v := 0)
            obtain ⟨cn6, hC6, ok6, hp6, hb6, hQ6, hV6, hO6⟩ := id hR6
            have w6 : Fr (SW b) h (pI h5 (b + 119) 4 0) := w5.pI (Or.inr (Or.inl rfl))
            obtain ⟨ad, ea, hX⟩ := cn6.tx (q := ((3, 89), "with", 537)) (w := wWi) (by decide) (by decide +kernel)
            have ea' : gR h5 0 737 = some ad := ea
            simp only [v34_17, v34_18, v34_19, v34_61, v34_62, v34_65, v34_66, v34_67, v34_68, v34_69, v34_71, lt3, t1, t3, t6, t7, tc4', ib4, gI_pJ, gI_pR, gJ_pI, gJ_pR, gR_pI, gR_pJ, gK_pI, gK_pJ, gK_pR, gN_pI, gN_pJ, gN_pR, gX_pI, gX_pJ, gX_pR, gS_pI, gS_pJ, gS_pR, gK_cpI, gN_cpI, gK_cpJ, gN_cpJ, gR_cpI, gR_cpJ, gJ_cpI, gI_cpJ, ea', vrf_s, true_and, true_or, and_self, reduceIte]
            rw [c39 hC6 ok6 hp6 hb6 hX (by decide) (by decide)]
            -- the thing is added
            have add : ∀ (h7 : Hp) (T7 : TKN) (v6 : Nat) (v2 : Value), Fr (SW b) h h7 → RD b p T7 s ρ β h7 → gI h7 (b + 119) 0 = nI (vT (nxT p T)) → gI h7 (b + 119) 1 = nI (vT (nxT p (nxT p T))) → gI h7 (b + 119) 2 = nI (vT (nxT p (nxT p (nxT p T)))) → gI h7 (b + 119) 3 = nI (vT (nxT p (nxT p (nxT p (nxT p T))))) → gI h7 (b + 119) 4 = nI v6 → GK b p (true, sgN s (vT (nxT p T)) (vT (nxT p (nxT p T))) (vT (nxT p (nxT p (nxT p T)))) (vT (nxT p (nxT p (nxT p (nxT p T))))) v6, T7) h K → V 34 114 [.ref (b + 117), .ref (b + 74), v2] [] h7 K := fun h7 T7 v6 v2 w7 hR7 a0 a1 a2 a3 a4 kk => by
              obtain ⟨cn7, ⟨⟨t1, t2, t3, t4, t5, t6, t7, t8, t9⟩, u5⟩, ok7, hp7, hb7, hQ7, hV7, hO7⟩ := id hR7
              have k7 := hQ7.1
              simp only [v34_114, v34_115, v34_116, v34_119, v34_120, v34_121, v34_122, v34_125, v34_126, v34_127, v34_128, v34_131, v34_132, v34_133, v34_134, v34_137, v34_138, v34_139, v34_140, v34_143, v34_144, v34_145, ib7_0, ib7_1, ib7_2, ib7_3, ib7_4, ib7_5, ib7_6, ib3_0, ib3_1, ib3_2, ib4_0, ib4_1, ib4_2, ib4_3, tc0, tc1, tc2, tc3, tc4, tc5, tc6, t1, t3, t6, t7, tc4', ib4, a0, a1, a2, a3, a4, k7, vrf_s, true_and, true_or, and_self]
              refine c21 hQ7 hV7 hO7 g8 (fun h8 q8 hV8 => ?_)
              simp only [pu_s, v34_148, v34_149, v34_150, bo_1, true_and]
              have hF : ∀ x j, AW (b + 74) x j → (b + 74 ≤ x ∧ x < b + 110 ∧ ¬ (x = b + 74 ∧ 5 ≤ j)) := fun x j z => by unfold AW at z; omega
              exact kk h8 ρ β (w7.tr (q8.1.mo (fun x j z => Or.inr (Or.inr (hF x j z))))) ⟨TA.fr ⟨t1, t2, t3, t4, t5, t6, t7, t8, t9⟩ hp7 q8.1 (fun x j z => by have := hF x j z; omega), (q8.1.i (fun z => by have := hF _ _ z; omega)).trans u5.1, (q8.1.i (fun z => by have := hF _ _ z; omega)).trans u5.2.1, (q8.1.i (fun z => by have := hF _ _ z; omega)).trans u5.2.2.1, (q8.1.i (fun z => by have := hF _ _ z; omega)).trans u5.2.2.2⟩ (hQ7.fi q8) hV8
            cases gw : isW p (nxT p (nxT p (nxT p (nxT p (nxT p T))))) wWi with
            | false =>
              rw [gw, if_neg Bool.false_ne_true] at kk
              simp only [v34_74, pu_s, z2_f, reduceIte]
              exact add _ _ 0 _ w6 hR6 (by rw [gI_ne (by omega)]; exact z0) (by rw [gI_ne (by omega)]; exact z1) (by rw [gI_ne (by omega)]; exact z2') (by rw [gI_ne (by omega)]; exact y3) (gI_at _ _ _ _) kk
            | true =>
              rw [gw, if_pos rfl] at kk
              have t1' : gK (pI h5 (b + 119) 4 0) (b + 117) = 4 := t1
              simp only [v34_74, v34_77, v34_78, pu_s, z2_t, i10, t1', true_and, reduceIte]
              refine rnx hR6 (fun h7 q7 hR7 => ?_)
              have w7 := w6.tr (q7.mo (fun x j z => Or.inl z))
              obtain ⟨cn7, ⟨⟨t1, t2, t3, t4, t5, t6, t7, t8, t9⟩, u1, u2, u3, u4⟩, ok7, hp7, hb7, hQ7, hV7, hO7⟩ := id hR7
              obtain ⟨a2, y1, y2, y3', y4⟩ := cn7.tb (j := 2) (by decide)
              obtain ⟨a3, x1, x2', x3, x4⟩ := cn7.tb (j := 3) (by decide)
              have n2 : gN h7 a2 = 7 := y3'
              have n3 : gN h7 a3 = 7 := x3
              have e2 : gI h7 a2 4 = 0 := y4 4 (by decide)
              have e3 : gI h7 a3 4 = 9 := x4 4 (by decide)
              have hn : ∀ k, k ≤ 3 → gI h7 (b + 119) k = gI h5 (b + 119) k := fun k hk => (q7.i (fun z => by unfold NW at z; omega)).trans (gI_ne (by omega))
              cases g9 : rdB (nxT p (nxT p (nxT p (nxT p (nxT p (nxT p T)))))) 0 9 with
              | false =>
                rw [g9, if_neg Bool.false_ne_true] at kk
                simp only [pu_n, v34_81, v34_82, v34_85, v34_86, v34_87, v34_90, v34_91, v34_92, v34_95, v34_98, v34_99, t1, y1, y2, x1, x2', n2, n3, tc4', ib4, e2, e3, c38 hR7, g9, pu_s, z2_f, bo_0, vrf_s, not_true_eq_false, true_and, true_or, or_true, and_self, reduceIte]
                exact hR7.gk w7 kk
              | true =>
                rw [g9, if_pos rfl] at kk
                simp only [pu_n, v34_81, v34_82, v34_85, v34_86, v34_87, v34_90, v34_91, v34_92, v34_95, v34_100, v34_101, v34_104, v34_105, v34_106, v34_109, v34_110, v34_111, t1, t3, t6, t7, u4, y1, y2, x1, x2', n2, n3, tc4', ib4, e2, e3, c38 hR7, g9, pu_s, z2_t, i10, vrf_s, gI_pJ, gI_pR, gJ_pI, gJ_pR, gR_pI, gR_pJ, gK_pI, gK_pJ, gK_pR, gN_pI, gN_pJ, gN_pR, gX_pI, gX_pJ, gX_pR, gS_pI, gS_pJ, gS_pR, gK_cpI, gN_cpI, gK_cpJ, gN_cpJ, gR_cpI, gR_cpJ, gJ_cpI, gI_cpJ, not_false_eq_true, true_and, true_or, or_true, and_self, reduceIte]
                refine rnx hR7.nm (fun h8 q8 hR8 => ?_)
                simp only [pu_n]
                have hn8' : ∀ k, k ≤ 3 → gI h8 (b + 119) k = gI h5 (b + 119) k := fun k hk => (q8.i (fun z => by unfold NW at z; omega)).trans ((gI_ne (by omega)).trans (hn k hk))
                exact add h8 _ _ _ ((w7.pI (Or.inr (Or.inl rfl))).tr (q8.mo (fun x j z => Or.inl z))) hR8 ((hn8' 0 (by decide)).trans z0) ((hn8' 1 (by decide)).trans z1) ((hn8' 2 (by decide)).trans z2') ((hn8' 3 (by decide)).trans y3) ((q8.i (fun z => by unfold NW at z; omega)).trans (gI_at _ _ _ _)) kk
  · rw [if_neg g8] at kk
    simp only [e34, v34_0, v34_1, v34_4, v34_6, v34_9, v34_10, k3, hV.1, e8, g8, bo_0, true_and, reduceIte]
    exact hR.gk Fr.rf kk
theorem c35 (hR : RD b p T s ρ β h) (kk : GK b p (byT p s T) h K) : AM 35 [.ref (b + 117), .ref (b + 74)] h K := by
  obtain ⟨cn, ⟨⟨t1, -⟩, -⟩, -, -, -, hQ, hV, hO⟩ := id hR
  have k3 := hQ.1
  have hn8 := hO.2.1
  have e8 : (nI (sM s) < 24) = (sM s < 24) := nltN (c := 24) (by omega) (by decide)
  simp only [byT, rd1] at kk
  by_cases g8 : sM s < 24
  · rw [if_pos g8] at kk
    simp only [e35, v35_0, v35_1, v35_4, v35_6, v35_11, v35_12, k3, hV.2.1, e8, g8, t1, true_and, reduceIte]
    refine rnx hR (fun h1 q1 hR1 => ?_)
    simp only [pu_n, v35_15, v35_16]
    have w1 := q1.mo (G := SW b) (fun x j z => Or.inl z)
    refine c35_s (k := 0) (lo := 0) (hi := 6) hR1 (by decide) rfl rfl _ (fun g => ?_) (fun g h2 q2 hR2 y0 => ?_)
    · rw [if_neg (ne_true_of_eq_false g)] at kk
      exact hR1.gk w1 kk
    · rw [if_pos g] at kk
      have w2 := w1.tr (q2.mo (fun x j z => SW.nb z))
      have hv6 := (rdB_s (l := 0) (m := 6) g hR1.2.2.1.2.2.2.1 rfl rfl (by decide) (by decide)).2
      refine c35_s (k := 1) (lo := 0) (hi := 3) hR2 (by decide) rfl rfl _ (fun g => ?_) (fun g h3 q3 hR3 y1 => ?_)
      · rw [if_neg (ne_true_of_eq_false g)] at kk
        exact hR2.gk w2 kk
      · rw [if_pos g] at kk
        have w3 := w2.tr (q3.mo (fun x j z => SW.nb z))
        refine c35_s (k := 2) (lo := 1) (hi := 99) hR3 (by decide) rfl rfl _ (fun g => ?_) (fun g h4 q4 hR4 y2 => ?_)
        · rw [if_neg (ne_true_of_eq_false g)] at kk
          exact hR3.gk w3 kk
        · rw [if_pos g] at kk
          have w4 := w3.tr (q4.mo (fun x j z => SW.nb z))
          have lt3 : ((2 : Int32) < nI (2 + 1)) = True := eq_true (by decide)
          obtain ⟨cn5, ⟨⟨t1, t2, t3, t4, t5, t6, t7, t8, t9⟩, u5⟩, ok5, hp7, hb7, hQ7, hV7, hO7⟩ := id hR4
          have z0 : gI h4 (b + 119) 0 = nI (vT (nxT p T)) := (q4.i (fun z => by unfold NBk NW at z; omega)).trans ((q3.i (fun z => by unfold NBk NW at z; omega)).trans y0)
          have z1 : gI h4 (b + 119) 1 = nI (vT (nxT p (nxT p T))) := (q4.i (fun z => by unfold NBk NW at z; omega)).trans y1
          have k7 := hQ7.1
          simp only [v35_17, v35_18, v35_19, v35_61, v35_62, v35_63, v35_66, v35_67, v35_68, v35_69, v35_72, v35_73, v35_74, v35_75, v35_78, v35_79, v35_80, ib7_0, ib7_1, ib7_2, ib7_3, ib7_4, ib7_5, ib7_6, ib3_0, ib3_1, ib3_2, ib4_0, ib4_1, ib4_2, ib4_3, tc0, tc1, tc2, tc3, tc4, tc5, tc6, lt3, t1, t3, t6, t7, z0, z1, y2, k7, vrf_s, true_and, true_or, and_self, reduceIte]
          refine c22 hQ7 hV7 hO7 g8 hv6 (fun h8 q8 hQ8 hV8 => ?_)
          simp only [pu_s, v35_83, v35_84, v35_85, bo_1, true_and]
          have hF : ∀ x j, BV (b + 74) x j → (b + 74 ≤ x ∧ x < b + 110 ∧ ¬ (x = b + 74 ∧ 5 ≤ j)) := fun x j z => by unfold BV at z; omega
          exact kk h8 ρ _ (w4.tr (q8.mo (fun x j z => Or.inr (Or.inr (hF x j z))))) ⟨TA.fr ⟨t1, t2, t3, t4, t5, t6, t7, t8, t9⟩ hp7 q8 (fun x j z => by have := hF x j z; omega), (q8.i (fun z => by have := hF _ _ z; omega)).trans u5.1, (q8.i (fun z => by have := hF _ _ z; omega)).trans u5.2.1, (q8.i (fun z => by have := hF _ _ z; omega)).trans u5.2.2.1, (q8.i (fun z => by have := hF _ _ z; omega)).trans u5.2.2.2⟩ hQ8 hV8
  · rw [if_neg g8] at kk
    simp only [e35, v35_0, v35_1, v35_4, v35_6, v35_9, v35_10, k3, hV.2.1, e8, g8, bo_0, true_and, reduceIte]
    exact hR.gk Fr.rf kk
end
