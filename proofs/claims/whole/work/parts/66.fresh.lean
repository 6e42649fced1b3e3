/-! THE REFERENCE: over, takeFrom; objects made when first wanted -/
section
variable {m x y n : Nat} {u : LU} {A : XA} {s : SG} {q : XQ} {π : PR} {k : Option (SG × XQ)} {p : Nat × (Nat → Nat)} {sh : Nat → XH} {f : Nat → Int32} {h h1 h2 : Hp} {K : Option Value → Hp → Prop}
theorem MSh.ag (hM : MSh m h) (w : Ag n h h1) (hn : m + 59 ≤ n) : MSh m h1 := by
  obtain ⟨q1, q2, q3, q4, q5, q6⟩ := hM
  have b1 : ∀ q ∈ mkL, q.1 < 59 := by decide
  have b2 : ∀ q ∈ mnL, q.1 < 59 := by decide
  refine ⟨fun v hv => (w.ar (by omega)).trans (q1 v hv), fun v hv => (w.ak (by have := b1 v hv; omega)).trans (q2 v hv), fun v hv => (w.an (by have := b2 v hv; omega)).trans (q3 v hv), fun i hi => ?_, fun i hi => ?_, fun i hi => ?_⟩
  · obtain ⟨e1, e2, e3⟩ := q4 i hi
    exact ⟨(w.ar (by omega)).trans e1, (w.ak (by omega)).trans e2, (w.an (by omega)).trans e3⟩
  · obtain ⟨e1, e2, e3⟩ := q5 i hi
    exact ⟨(w.ar (by omega)).trans e1, (w.ak (by omega)).trans e2, (w.an (by omega)).trans e3⟩
  · obtain ⟨e1, e2, e3⟩ := q6 i hi
    exact ⟨(w.ar (by omega)).trans e1, (w.ak (by omega)).trans e2, (w.an (by omega)).trans e3⟩
theorem MP.ag (hP : MP m s h) (hO : SOk s) (w : Ag n h h1) (hn : m + 59 ≤ n) : MP m s h1 := by
  obtain ⟨p1, p2, p3, p4, p5⟩ := hP
  have := hO.1
  have := hO.2.1
  exact ⟨(w.ai (by omega)).trans p1, (w.ai (by omega)).trans p2, fun t ht k hk => (w.ai (by omega)).trans (p3 t ht k hk), fun b hb k hk => (w.ai (by omega)).trans (p4 b hb k hk), fun k hk => (w.ai (by omega)).trans (p5 k hk)⟩
theorem PP.ag (hp : PP m π h) (w : Ag n h h1) (hn : m + 59 ≤ n) : PP m π h1 := by
  obtain ⟨p1, ⟨p2, p3⟩, p4, p5, p6⟩ := hp
  exact ⟨(w.ai (by omega)).trans p1, ⟨(w.ai (by omega)).trans p2, fun v hv => ⟨(p3 v hv).1, (p3 v hv).2.1, (w.ai (by omega)).trans (p3 v hv).2.2⟩⟩, (w.ai (by omega)).trans p4, fun v hv => ⟨(w.ai (by omega)).trans (p5 v hv).1, (w.ai (by omega)).trans (p5 v hv).2⟩, (w.ai (by omega)).trans p6⟩
theorem MCs.ag (hQ : MCs m q h) (w : Ag n h h1) (hn : m + 59 ≤ n) : MCs m q h1 := ⟨(w.ai (by omega)).trans hQ.1, (w.ai (by omega)).trans hQ.2.1, (w.ai (by omega)).trans hQ.2.2⟩
theorem OB.ag (hO : OB m x h) (w : Ag n h h1) (hn : x + 59 ≤ n) (hX : gX h ≤ gX h1) : OB m x h1 := ⟨hO.1, Nat.le_trans hO.2.1 hX, hO.2.2.1.ag w hn, hO.2.2.2.ag w hn⟩
theorem MLZ.ag (hL : MLZ m k u h) (w : Ag (gX h) h h1) (hm : m + 59 ≤ gX h) (hX : gX h ≤ gX h1) : MLZ m k u h1 := by
  obtain ⟨l1, l2, l3, l4, l5, l6, l7, l8, l9⟩ := hL
  refine ⟨(w.ar (by omega)).trans l1, (w.ar (by omega)).trans l2, (w.ar (by omega)).trans l3, fun x hx => (l4 x hx).ag w (l4 x hx).2.1 hX, l5, l6, l7, l8, fun q x hq hx => ?_⟩
  obtain ⟨y1, y2, y3⟩ := l9 q x hq hx
  have hb := (l4 x (Or.inl hx)).2.1
  exact ⟨y1, y2.ag y1 w hb, y3.ag w hb⟩
theorem MR.ag (hR : MR m u A h) (hW : WF A) (w : Ag (gX h) h h1) (hX : gX h ≤ gX h1) : MR m u A h1 := by
  obtain ⟨r0, r1, r2, r3, r4, r5, r6, r7, r8⟩ := hR
  have hp := hW.2.2.1
  refine ⟨Nat.le_trans r0 hX, r1.ag w r0, r2.ag w r0, r3.ag hW.1 w r0, r4.ag w r0, fun i hi => ?_, ⟨(w.ai (by omega)).trans r6.1, fun j hj => (w.ai (by omega)).trans (r6.2 j hj)⟩, fun j hj => (w.ai (by omega)).trans (r7 j hj), r8.ag w r0 hX⟩
  obtain ⟨e1, e2, e3, e4⟩ := r5 i hi
  exact ⟨(w.ai (by omega)).trans e1, fun k hk => ⟨fun hk2 => (w.ai (by omega)).trans ((e2 k hk).1 hk2), fun hk2 => (w.ai (by omega)).trans ((e2 k hk).2 hk2)⟩, (w.ai (by omega)).trans e3, fun j hj => (w.aj (by omega)).trans (e4 j hj)⟩
/-- over -/
theorem c232 {a c : Nat} (hac : a ≠ c) (hn : n ≤ 1000) (ka : gK h a = 8) (kc : gK h c = 8) (na : gN h a = n) (nc : gN h c = n) (kk : ∀ h2, Fr (fun x _ => x = c) h h2 → (∀ i, i < n → gI h2 c i = gI h a i) → K none h2) : AM 232 [.ref a, .ref c] h K := by
  have l : ∀ (j i : Nat) (h1 : Hp), i + j = n → Fr (fun x _ => x = c) h h1 → (∀ t, t < i → gI h1 c t = gI h a t) → V 232 2 [.ref a, .ref c, .int (nI i)] [] h1 K := by
    intro j
    induction j with
    | zero =>
      intro i h1 hi hf hz
      have e : i = n := by omega
      subst e
      have k1 : gK h1 a = 8 := hf.k.trans ka
      have n1 : gN h1 a = i := hf.n.trans na
      have e8 : (Int32.ofNat i ≤ nI i) = True := eq_true (nI_le (Nat.le_refl _) (by omega))
      have l8 : ((8 : Nat) ≤ 8) = True := eq_true (by decide)
      have l13 : ((8 : Nat) ≤ 13) = True := eq_true (by decide)
      simp only [v232_2, v232_3, v232_4, v232_5, v232_20, k1, n1, e8, l8, l13, reduceIte, true_and, true_or, and_self]
      exact kk h1 hf hz
    | succ j ih =>
      intro i h1 hi hf hz
      have k1 : gK h1 a = 8 := hf.k.trans ka
      have n1 : gN h1 a = n := hf.n.trans na
      have k2 : gK h1 c = 8 := hf.k.trans kc
      have n2 : gN h1 c = n := hf.n.trans nc
      have e8 : (Int32.ofNat n ≤ nI i) = False := eq_false (nI_ge (by omega) (by omega))
      have l8 : ((8 : Nat) ≤ 8) = True := eq_true (by decide)
      have l13 : ((8 : Nat) ≤ 13) = True := eq_true (by decide)
      have c1 : (nI i).toNatClampNeg = i := nIc (by omega)
      have i1 : inb (nI i) n = True := nIb (by omega) (by omega)
      have old : gI h1 a i = gI h a i := hf.i hac
      simp only [v232_2, v232_3, v232_4, v232_5, v232_8, v232_9, v232_10, v232_11, v232_12, v232_13, v232_14, k1, n1, k2, n2, e8, l8, l13, c1, i1, old, reduceIte, true_and, true_or, and_self, nI_1]
      rw [v232_17]
      refine ih (i + 1) _ (by omega) (hf.pI rfl) (fun t ht => ?_)
      by_cases e : t = i
      · subst e; exact gI_at _ _ _ _
      · rw [gI_ne (fun z => e z.2)]
        exact hz t (by omega)
  simp only [e232, v232_0, v232_1]
  exact l n 0 h (Nat.zero_add _) Fr.rf (fun t ht => absurd ht (Nat.not_lt_zero t))
/-- what takeFrom writes -/
def TK (x a j : Nat) : Prop := (a = x ∧ (j = 9 ∨ j = 11 ∨ (14 ≤ j ∧ j ≤ 16))) ∨ (x + 18 ≤ a ∧ a < x + 26) ∨ (x + 27 ≤ a ∧ a < x + 52)
theorem MSh.tk (hM : MSh x h) (w : Fr (TK x) h h1) : MSh x h1 := hM.my w (fun a j z => by unfold TK at z; unfold MY; omega)
theorem MSh.tk2 (hM : MSh y h) (hd : dj x y) (w : Fr (TK x) h h1) : MSh y h1 := hM.fr w (fun a j z => by unfold TK at z; unfold dj at hd; exact ⟨by omega, fun v => by omega⟩)
theorem MP.tk2 (hP : MP y s h) (hO : SOk s) (hd : dj x y) (w : Fr (TK x) h h1) : MP y s h1 := hP.fr hO w (fun a j z => by unfold TK at z; unfold dj at hd; exact ⟨fun v => by omega, fun v => by omega, fun v => by omega⟩)
theorem c233_t (hx : MSh x h) (hy : MSh y h) (hd : dj x y) (kk : ∀ h2 (v2 : Value), Fr (fun a _ => x + 18 ≤ a ∧ a < x + 26) h h2 → (∀ t, t < 8 → ∀ k, k < 7 → gI h2 (x + (18 + t)) k = gI h (y + (18 + t)) k) → V 233 37 [.ref x, .ref y, v2] [] h2 K) :
    ∀ (j t : Nat) (h1 : Hp), t + j = 8 → Fr (fun a _ => x + 18 ≤ a ∧ a < x + 26) h h1 → (∀ t', t' < t → ∀ k, k < 7 → gI h1 (x + (18 + t')) k = gI h (y + (18 + t')) k) → V 233 10 [.ref x, .ref y, .int (nI t)] [] h1 K := by
  unfold dj at hd
  intro j
  induction j with
  | zero =>
    intro t h1 hi hf hz
    have e : t = 8 := by omega
    subst e
    have e8 : ((8 : Int32) ≤ nI 8) = True := eq_true (by decide)
    simp only [v233_10, v233_11, v233_13, e8, reduceIte]
    exact kk h1 _ hf hz
  | succ j ih =>
    intro t h1 hi hf hz
    have e8 : ((8 : Int32) ≤ nI t) = False := eq_false (nI_ge (b := 8) (by omega) (by decide))
    have hx1 : MSh x h1 := hx.fr hf (fun a j z => ⟨by omega, fun v => by omega⟩)
    have hy1 : MSh y h1 := hy.fr hf (fun a j z => ⟨by omega, fun v => by omega⟩)
    obtain ⟨t1, t2, t3⟩ := hx1.th (show t < 8 by omega)
    obtain ⟨u1, u2, u3⟩ := hy1.th (show t < 8 by omega)
    have c1 : (nI t).toNatClampNeg = t := nIc (by omega)
    have i1 : inb (nI t) 8 = True := nIb (by omega) (by omega)
    simp only [v233_10, v233_11, v233_13, v233_16, v233_17, v233_20, v233_21, v233_22, v233_23, v233_26, v233_27, v233_28, e8, reduceIte, hx1.k0, hx1.f10, hx1.k17, hx1.n17, hy1.k0, hy1.f10, hy1.k17, hy1.n17, t1, u1, c1, i1, vrf_s, true_and, true_or, or_true, and_self]
    refine c232 (n := 7) (by omega) (by decide) u2 t2 u3 t3 (fun h2 q2 hz2 => ?_)
    simp only [pu_n, v233_31, nI_1]
    rw [v233_34]
    refine ih (t + 1) h2 (by omega) (hf.tr (q2.mo (fun a j z => ⟨by omega, by omega⟩))) (fun t' ht' k hk => ?_)
    by_cases e : t' = t
    · subst e
      rw [hz2 k hk]
      exact hf.i (fun z => by omega)
    · rw [q2.i (by omega)]
      exact hz t' (by omega) k hk
theorem c233_b (hx : MSh x h) (hy : MSh y h) (hd : dj x y) (kk : ∀ h2 (v2 : Value), Fr (fun a _ => x + 27 ≤ a ∧ a < x + 51) h h2 → (∀ t, t < 24 → ∀ k, k < 3 → gI h2 (x + (27 + t)) k = gI h (y + (27 + t)) k) → V 233 74 [.ref x, .ref y, v2] [] h2 K) :
    ∀ (j t : Nat) (h1 : Hp), t + j = 24 → Fr (fun a _ => x + 27 ≤ a ∧ a < x + 51) h h1 → (∀ t', t' < t → ∀ k, k < 3 → gI h1 (x + (27 + t')) k = gI h (y + (27 + t')) k) → V 233 47 [.ref x, .ref y, .int (nI t)] [] h1 K := by
  unfold dj at hd
  intro j
  induction j with
  | zero =>
    intro t h1 hi hf hz
    have e : t = 24 := by omega
    subst e
    have e8 : ((24 : Int32) ≤ nI 24) = True := eq_true (by decide)
    simp only [v233_47, v233_48, v233_50, e8, reduceIte]
    exact kk h1 _ hf hz
  | succ j ih =>
    intro t h1 hi hf hz
    have e8 : ((24 : Int32) ≤ nI t) = False := eq_false (nI_ge (b := 24) (by omega) (by decide))
    have hx1 : MSh x h1 := hx.fr hf (fun a j z => ⟨by omega, fun v => by omega⟩)
    have hy1 : MSh y h1 := hy.fr hf (fun a j z => ⟨by omega, fun v => by omega⟩)
    obtain ⟨t1, t2, t3⟩ := hx1.by (show t < 24 by omega)
    obtain ⟨u1, u2, u3⟩ := hy1.by (show t < 24 by omega)
    have c1 : (nI t).toNatClampNeg = t := nIc (by omega)
    have i1 : inb (nI t) 24 = True := nIb (by omega) (by omega)
    simp only [v233_47, v233_48, v233_50, v233_53, v233_54, v233_57, v233_58, v233_59, v233_60, v233_63, v233_64, v233_65, e8, reduceIte, hx1.k0, hx1.f12, hx1.k26, hx1.n26, hy1.k0, hy1.f12, hy1.k26, hy1.n26, t1, u1, c1, i1, vrf_s, true_and, true_or, or_true, and_self]
    refine c232 (n := 3) (by omega) (by decide) u2 t2 u3 t3 (fun h2 q2 hz2 => ?_)
    simp only [pu_n, v233_68, nI_1]
    rw [v233_71]
    refine ih (t + 1) h2 (by omega) (hf.tr (q2.mo (fun a j z => ⟨by omega, by omega⟩))) (fun t' ht' k hk => ?_)
    by_cases e : t' = t
    · subst e
      rw [hz2 k hk]
      exact hf.i (fun z => by omega)
    · rw [q2.i (by omega)]
      exact hz t' (by omega) k hk
/-- takeFrom -/
theorem c233 (hx : MSh x h) (hy : MSh y h) (hd : dj x y) (hP : MP y s h) (hQ : MCs y q h) (hO : SOk s) (kk : ∀ h2, Fr (TK x) h h2 → MP x s h2 → MCs x q h2 → K none h2) : AM 233 [.ref x, .ref y] h K := by
  have hd0 := hd
  unfold dj at hd
  have hn8 := hO.1
  have hm24 := hO.2.1
  simp only [e233, v233_0, v233_1, v233_2, v233_5, v233_8, v233_9, hx.k0, hy.k0, hP.1, true_and]
  have w1 : Fr (TK x) h (pI h x 9 (nI (sN s))) := Fr.rf.pI (Or.inl ⟨rfl, Or.inl rfl⟩)
  refine c233_t (hx.tk w1) (hy.tk2 hd0 w1) hd0 (fun h2 v2 q2 hT => ?_) 8 0 _ rfl Fr.rf (fun t ht => absurd ht (Nat.not_lt_zero t))
  have w2 : Fr (TK x) h h2 := w1.tr (q2.mo (fun a j z => Or.inr (Or.inl z)))
  have hx2 := hx.tk w2
  have hy2 := hy.tk2 hd0 w2
  have hP2 := hP.tk2 hO hd0 w2
  simp only [v233_37, v233_38, v233_39, v233_42, v233_45, v233_46, hx2.k0, hy2.k0, hP2.2.1, true_and]
  have w3 : Fr (TK x) h (pI h2 x 11 (nI (sM s))) := w2.pI (Or.inl ⟨rfl, by omega⟩)
  refine c233_b (hx.tk w3) (hy.tk2 hd0 w3) hd0 (fun h4 v4 q4 hB => ?_) 24 0 _ rfl Fr.rf (fun t ht => absurd ht (Nat.not_lt_zero t))
  have w4 : Fr (TK x) h h4 := w3.tr (q4.mo (fun a j z => Or.inr (Or.inr (by omega))))
  have hx4 := hx.tk w4
  have hy4 := hy.tk2 hd0 w4
  simp only [v233_74, v233_75, v233_78, v233_79, v233_82, hx4.k0, hy4.k0, hx4.f13, hy4.f13, vrf_s, true_and]
  refine c232 (n := 4) (by omega) (by decide) hy4.k51 hx4.k51 hy4.n51 hx4.n51 (fun h5 q5 hA => ?_)
  have w5 : Fr (TK x) h h5 := w4.tr (q5.mo (fun a j z => Or.inr (Or.inr (by omega))))
  have hx5 := hx.tk w5
  have hy5 := hy.tk2 hd0 w5
  have hP5 := hP.tk2 hO hd0 w5
  have hq : ∀ j, gI h5 y j = gI h y j := fun j => w5.i (fun z => by unfold TK at z; omega)
  have n1 : ∀ (v : Int32) (j : Nat), gI (pI h5 x 14 v) y j = gI h y j := fun v j => by rw [gI_ne (by omega)]; exact hq j
  have n2 : ∀ (v w : Int32) (j : Nat), gI (pI (pI h5 x 14 v) x 15 w) y j = gI h y j := fun v w j => by rw [gI_ne (by omega)]; exact n1 v j
  simp only [pu_n, v233_85, v233_86, v233_87, v233_90, v233_93, v233_94, v233_95, v233_98, v233_101, v233_102, v233_103, v233_106, v233_109, hx5.k0, hy5.k0, gI_pJ, gI_pR, gJ_pI, gJ_pR, gR_pI, gR_pJ, gK_pI, gK_pJ, gK_pR, gN_pI, gN_pJ, gN_pR, gX_pI, gX_pJ, gX_pR, gS_pI, gS_pJ, gS_pR, gK_cpI, gN_cpI, gK_cpJ, gN_cpJ, gR_cpI, gR_cpJ, gJ_cpI, gI_cpJ, hq, n1, n2, true_and]
  have w6 : Fr (TK x) h (pI (pI (pI h5 x 14 (gI h y 14)) x 15 (gI h y 15)) x 16 (gI h y 16)) := ((w5.pI (Or.inl ⟨rfl, by omega⟩)).pI (Or.inl ⟨rfl, by omega⟩)).pI (Or.inl ⟨rfl, by omega⟩)
  have e5 : ∀ a j, a ≠ x → gI (pI (pI (pI h5 x 14 (gI h y 14)) x 15 (gI h y 15)) x 16 (gI h y 16)) a j = gI h5 a j := fun a j ha => by rw [gI_ne (fun z => ha z.1), gI_ne (fun z => ha z.1), gI_ne (fun z => ha z.1)]
  refine kk _ w6 ⟨?_, ?_, fun t ht k hk => ?_, fun b hb k hk => ?_, fun k hk => ?_⟩ ⟨?_, ?_, ?_⟩
  · rw [gI_ne (by omega), gI_ne (by omega), gI_ne (by omega), q5.i (by omega), q4.i (by omega), gI_ne (by omega), q2.i (by omega), gI_at]
  · rw [gI_ne (by omega), gI_ne (by omega), gI_ne (by omega), q5.i (by omega), q4.i (by omega), gI_at]
  · rw [e5 _ _ (by omega), q5.i (by omega), q4.i (by omega), gI_ne (by omega), hT t (by omega) k hk, gI_ne (by omega)]
    exact hP.t ht hk
  · rw [e5 _ _ (by omega), q5.i (by omega), hB b (by omega) k hk, gI_ne (by omega), q2.i (by omega), gI_ne (by omega)]
    exact hP.b hb hk
  · rw [e5 _ _ (by omega), hA k hk]
    exact (hP.tk2 hO hd0 w4).a hk
  · rw [gI_ne (by omega), gI_ne (by omega), gI_at]
    exact hQ.1
  · rw [gI_ne (by omega), gI_at]
    exact hQ.2.1
  · rw [gI_at]
    exact hQ.2.2
/-- a made object takes the stall -/
theorem OB.tk (hO : OB m x h) (w : Fr (TK x) h h1) : OB m x h1 := ⟨hO.1, by rw [w.2.2.1]; exact hO.2.1, hO.2.2.1.tk w, hO.2.2.2.fr w (fun j _ _ z => by unfold TK at z; omega)⟩
theorem MG.tr (w1 : Ag m h h1) (hX1 : gX h ≤ gX h1) (hX2 : gX h1 ≤ gX h + 100) (hS1 : gS h1 ≤ gS h + 2000) (w2 : MG m h1 h2) (hX3 : gX h2 ≤ gX h1 + 100) (hS2 : gS h2 ≤ gS h1 + 2000) : MG m h h2 := ⟨w1.tr w2.1, Nat.le_trans hX1 w2.2.1, by omega, by omega⟩
/-- the reference's side, its lazily made objects aside, when one of them is written -/
theorem MR.ob (hR : MR m u A h) (hW : WF A) {F : Nat → Nat → Prop} (hx : m + 59 ≤ x) (w : Fr F h h1) (hF : ∀ a j, F a j → x ≤ a ∧ a < x + 59) (hL : MLZ m (aK A) u h1) : MR m u A h1 := by
  obtain ⟨r0, r1, r2, r3, r4, r5, r6, r7, r8⟩ := hR
  exact ⟨by rw [w.2.2.1]; exact r0, r1.fr w (fun a j z => by have := hF a j z; exact ⟨by omega, fun v => by omega⟩), r2.fr w (fun j _ _ z => by have := hF _ _ z; omega), r3.fr hW.1 w (fun a j z => by have := hF _ _ z; exact ⟨fun y => by omega, fun y => by omega, fun y => by omega⟩), r4.fr w (fun j _ _ z => by have := hF _ _ z; omega), r5.fr w (fun a j z => by have := hF a j z; omega), r6.fr w (fun a j z => by have := hF a j z; omega), r7.fr w (fun a j z => by have := hF a j z; omega), hL⟩
/-- the tried one is written -/
theorem MLZ.tried (hL : MLZ m k u h) (hu : u.2.1 = some x) {F : Nat → Nat → Prop} (w : Fr F h h1) (hF : ∀ a j, F a j → x ≤ a ∧ a < x + 59) (hO : OB m x h1) : MLZ m k u h1 := by
  obtain ⟨l1, l2, l3, l4, l5, l6, l7, l8, l9⟩ := hL
  have hb := hO.1
  refine ⟨(w.r (fun z => by have := hF _ _ z; omega)).trans l1, (w.r (fun z => by have := hF _ _ z; omega)).trans l2, (w.r (fun z => by have := hF _ _ z; omega)).trans l3, fun z hz => ?_, l5, l6, l7, l8, fun q z hq hz => ?_⟩
  · by_cases e : z = x
    · subst e; exact hO
    · refine (l4 z hz).fr w (fun a j y => ?_)
      have h1 := hF a j y
      rcases hz with hz | hz | hz
      · have := l5 z x hz hu
        unfold dj at this
        omega
      · rw [hu] at hz
        exact absurd (Option.some.inj hz).symm e
      · have := l7 x z hu hz
        unfold dj at this
        omega
  · obtain ⟨y1, y2, y3⟩ := l9 q z hq hz
    have hd := l5 z x hz hu
    unfold dj at hd
    exact ⟨y1, y2.fr y1 w (fun a j y => by have := hF a j y; exact ⟨fun v => by omega, fun v => by omega, fun v => by omega⟩), y3.fr w (fun j _ _ y => by have := hF _ _ y; omega)⟩
/-- the marking one is written -/
theorem MLZ.marking (hL : MLZ m k u h) (hu : u.2.2 = some x) {F : Nat → Nat → Prop} (w : Fr F h h1) (hF : ∀ a j, F a j → x ≤ a ∧ a < x + 59) (hO : OB m x h1) : MLZ m k u h1 := by
  obtain ⟨l1, l2, l3, l4, l5, l6, l7, l8, l9⟩ := hL
  have hb := hO.1
  refine ⟨(w.r (fun z => by have := hF _ _ z; omega)).trans l1, (w.r (fun z => by have := hF _ _ z; omega)).trans l2, (w.r (fun z => by have := hF _ _ z; omega)).trans l3, fun z hz => ?_, l5, l6, l7, l8, fun q z hq hz => ?_⟩
  · by_cases e : z = x
    · subst e; exact hO
    · refine (l4 z hz).fr w (fun a j y => ?_)
      have h1 := hF a j y
      rcases hz with hz | hz | hz
      · have := l6 z x hz hu
        unfold dj at this
        omega
      · have := l7 z x hz hu
        unfold dj at this
        omega
      · rw [hu] at hz
        exact absurd (Option.some.inj hz).symm e
  · obtain ⟨y1, y2, y3⟩ := l9 q z hq hz
    have hd := l6 z x hz hu
    unfold dj at hd
    exact ⟨y1, y2.fr y1 w (fun a j y => by have := hF a j y; exact ⟨fun v => by omega, fun v => by omega, fun v => by omega⟩), y3.fr w (fun j _ _ y => by have := hF _ _ y; omega)⟩
/-- the kept one is written -/
theorem MLZ.kept {k' : SG × XQ} (hL : MLZ m k u h) (hu : u.1 = some x) {F : Nat → Nat → Prop} (w : Fr F h h1) (hF : ∀ a j, F a j → x ≤ a ∧ a < x + 59) (hO : OB m x h1) (h1' : SOk k'.1) (h2' : MP x k'.1 h1) (h3' : MCs x k'.2 h1) : MLZ m (some k') u h1 := by
  obtain ⟨l1, l2, l3, l4, l5, l6, l7, l8, l9⟩ := hL
  have hb := hO.1
  refine ⟨(w.r (fun z => by have := hF _ _ z; omega)).trans l1, (w.r (fun z => by have := hF _ _ z; omega)).trans l2, (w.r (fun z => by have := hF _ _ z; omega)).trans l3, fun z hz => ?_, l5, l6, l7, by rw [hu]; rfl, fun q z hq hz => ?_⟩
  · by_cases e : z = x
    · subst e; exact hO
    · refine (l4 z hz).fr w (fun a j y => ?_)
      have h1 := hF a j y
      rcases hz with hz | hz | hz
      · rw [hu] at hz
        exact absurd (Option.some.inj hz).symm e
      · have := l5 x z hu hz
        unfold dj at this
        omega
      · have := l6 x z hu hz
        unfold dj at this
        omega
  · rw [hu] at hz
    cases hz
    cases hq
    exact ⟨h1', h2', h3'⟩
/-- a new object, in one of the three places -/
theorem MLZ.new (hR : MR m u A h) (hW : WF A) (g1 : gX h1 = gX h + 59) (g3 : Ag (gX h) h h1) (hN : MR (gX h) (none, none, none) A0 h1) : OB m (gX h) h1 ∧ ∀ x, (u.1 = some x ∨ u.2.1 = some x ∨ u.2.2 = some x) → x + 59 ≤ gX h := by
  obtain ⟨r0, -, -, -, -, -, -, -, hL⟩ := hR
  obtain ⟨n0, n1, n2, -⟩ := hN
  exact ⟨⟨r0, by omega, n1, n2⟩, fun x hx => (hL.2.2.2.1 x hx).2.1⟩
theorem MR.new18 (hR : MR m u A h) (hW : WF A) (hu : u.2.1 = none) (g1 : gX h1 = gX h + 59) (g3 : Ag (gX h) h h1) (hN : MR (gX h) (none, none, none) A0 h1) : MR m (u.1, some (gX h), u.2.2) A (pR h1 m 18 (some (gX h))) ∧ OB m (gX h) (pR h1 m 18 (some (gX h))) := by
  obtain ⟨o1, o2⟩ := MLZ.new hR hW g1 g3 hN
  have hR1 := hR.ag hW g3 (by omega)
  have w : Fr (fun a j => a = m ∧ j = 18) h1 (pR h1 m 18 (some (gX h))) := Fr.rf.pR ⟨rfl, rfl⟩
  have o3 : OB m (gX h) (pR h1 m 18 (some (gX h))) := o1.fr w (fun a j z => by have := o1.1; omega)
  obtain ⟨r0, r1, r2, r3, r4, r5, r6, r7, l1, l2, l3, l4, l5, l6, l7, l8, l9⟩ := hR1
  have key : ∀ j ∈ mfL.map (fun q => q.1), j ≠ 18 := by decide
  refine ⟨⟨r0, r1.fr w (fun a j z => ⟨by omega, fun v => key j v.2 z.2⟩), r2.fr w (fun j _ _ z => by omega), r3.fr hW.1 w (fun a j z => ⟨fun y => by omega, fun y => by omega, fun y => by omega⟩), r4.fr w (fun j _ _ z => by omega), r5.fr w (fun a j z => by omega), r6.fr w (fun a j z => by omega), r7.fr w (fun a j z => by omega), (gR_ne (by omega)).trans l1, gR_at _ _ _ _, (gR_ne (by omega)).trans l3, fun z hz => ?_, fun z y hz hy => ?_, l6, fun z y hz hy => ?_, l8, fun q z hq hz => ?_⟩, o3⟩
  · rcases hz with hz | hz | hz
    · exact (l4 z (Or.inl hz)).fr w (fun a j y => by have := (l4 z (Or.inl hz)).1; omega)
    · cases hz; exact o3
    · exact (l4 z (Or.inr (Or.inr hz))).fr w (fun a j y => by have := (l4 z (Or.inr (Or.inr hz))).1; omega)
  · cases hy
    exact Or.inl (o2 z (Or.inl hz))
  · cases hz
    exact Or.inr (o2 y (Or.inr (Or.inr hy)))
  · obtain ⟨y1, y2, y3⟩ := l9 q z hq hz
    have hb := (l4 z (Or.inl hz)).1
    exact ⟨y1, y2.fr y1 w (fun a j y => ⟨fun v => by omega, fun v => by omega, fun v => by omega⟩), y3.fr w (fun j _ _ y => by omega)⟩
theorem MR.new19 (hR : MR m u A h) (hW : WF A) (hu : u.2.2 = none) (g1 : gX h1 = gX h + 59) (g3 : Ag (gX h) h h1) (hN : MR (gX h) (none, none, none) A0 h1) : MR m (u.1, u.2.1, some (gX h)) A (pR h1 m 19 (some (gX h))) ∧ OB m (gX h) (pR h1 m 19 (some (gX h))) := by
  obtain ⟨o1, o2⟩ := MLZ.new hR hW g1 g3 hN
  have hR1 := hR.ag hW g3 (by omega)
  have w : Fr (fun a j => a = m ∧ j = 19) h1 (pR h1 m 19 (some (gX h))) := Fr.rf.pR ⟨rfl, rfl⟩
  have o3 : OB m (gX h) (pR h1 m 19 (some (gX h))) := o1.fr w (fun a j z => by have := o1.1; omega)
  obtain ⟨r0, r1, r2, r3, r4, r5, r6, r7, l1, l2, l3, l4, l5, l6, l7, l8, l9⟩ := hR1
  have key : ∀ j ∈ mfL.map (fun q => q.1), j ≠ 19 := by decide
  refine ⟨⟨r0, r1.fr w (fun a j z => ⟨by omega, fun v => key j v.2 z.2⟩), r2.fr w (fun j _ _ z => by omega), r3.fr hW.1 w (fun a j z => ⟨fun y => by omega, fun y => by omega, fun y => by omega⟩), r4.fr w (fun j _ _ z => by omega), r5.fr w (fun a j z => by omega), r6.fr w (fun a j z => by omega), r7.fr w (fun a j z => by omega), (gR_ne (by omega)).trans l1, (gR_ne (by omega)).trans l2, gR_at _ _ _ _, fun z hz => ?_, l5, fun z y hz hy => ?_, fun z y hz hy => ?_, l8, fun q z hq hz => ?_⟩, o3⟩
  · rcases hz with hz | hz | hz
    · exact (l4 z (Or.inl hz)).fr w (fun a j y => by have := (l4 z (Or.inl hz)).1; omega)
    · exact (l4 z (Or.inr (Or.inl hz))).fr w (fun a j y => by have := (l4 z (Or.inr (Or.inl hz))).1; omega)
    · cases hz; exact o3
  · cases hy
    exact Or.inl (o2 z (Or.inl hz))
  · cases hy
    exact Or.inl (o2 z (Or.inr (Or.inl hz)))
  · obtain ⟨y1, y2, y3⟩ := l9 q z hq hz
    have hb := (l4 z (Or.inl hz)).1
    exact ⟨y1, y2.fr y1 w (fun a j y => ⟨fun v => by omega, fun v => by omega, fun v => by omega⟩), y3.fr w (fun j _ _ y => by omega)⟩
/-- fresh -/
theorem c231 (hR : MR m u A h) (hW : WF A) (kk : ∀ (h2 : Hp) (u2 : LU) (x : Nat), Ag m h h2 → gX h ≤ gX h2 → gX h2 ≤ gX h + 60 → gS h2 ≤ gS h + 1000 → MR m u2 A h2 → u2.2.1 = some x → OB m x h2 → MP x (aS A) h2 → MCs x (aQ A) h2 → K (some (.ref x)) h2) : AM 231 [.ref m] h K := by
  obtain ⟨r0, hM, hpp, hP, hQ, hS, hT, hF, hL⟩ := id hR
  -- behind the making
  have rest : ∀ (h1 : Hp) (u1 : LU) (x : Nat), Ag m h h1 → gX h ≤ gX h1 → gX h1 ≤ gX h + 60 → gS h1 ≤ gS h + 1000 → MR m u1 A h1 → u1.2.1 = some x → V 231 18 [.ref m] [] h1 K := by
    intro h1 u1 x a1 a2 a3 a4 hR1 hu
    obtain ⟨r0, hM1, hpp1, hP1, hQ1, hS1, hT1, hF1, hL1⟩ := id hR1
    have hO := hL1.2.2.2.1 x (Or.inr (Or.inl hu))
    have r18 : gR h1 m 18 = some x := hL1.2.1.trans hu
    have kx := hO.2.2.1.k0
    simp only [v231_18, v231_19, v231_22, v231_23, hM1.k0, r18, vrf_s, kx, true_and]
    refine c233 hO.2.2.1 hM1 (Or.inr hO.1) hP1 hQ1 hW.1 (fun h2 q2 hP2 hQ2 => ?_)
    have hF : ∀ a j, TK x a j → x ≤ a ∧ a < x + 59 := fun a j z => by unfold TK at z; omega
    have hO2 := hO.tk q2
    have hR2 := hR1.ob hW hO.1 q2 hF (hL1.tried hu q2 hF hO2)
    have k2 := hR2.2.1.k0
    have r18' : gR h2 m 18 = some x := hR2.2.2.2.2.2.2.2.2.2.1.trans hu
    simp only [pu_n, v231_26, v231_27, v231_30, k2, r18', vrf_s, true_and]
    have hb := hO.1
    exact kk h2 u1 x (a1.tr (Ag.of q2 (fun a j z => by have := hF a j z; omega))) (by rw [q2.2.2.1]; exact a2) (by rw [q2.2.2.1]; exact a3) (by rw [q2.2.2.2.1]; exact a4) hR2 hu hO2 hP2 hQ2
  have r18 : gR h m 18 = u.2.1 := hL.2.1
  cases hu : u.2.1 with
  | some x =>
    rw [hu] at r18
    have ns : ((some x : Option Nat) = none) = False := eq_false (by simp)
    simp only [e231, v231_0, v231_1, hM.k0, r18, true_and, v231_4, ns, reduceIte]
    exact rest h u x Ag.rf (Nat.le_refl _) (by omega) (by omega) hR hu
  | none =>
    rw [hu] at r18
    have km : gK (mk1 h 7 0 41) (gX h) = 7 := if_pos rfl
    simp only [e231, v231_0, v231_1, hM.k0, r18, true_and, v231_4, reduceIte, v231_7, v231_8, v231_11, v231_12, km]
    refine n133 (m := gX h) rfl (fun h1 g1 g2 g3 hN => ?_)
    obtain ⟨hR1, hO1⟩ := MR.new18 hR hW hu g1 g3 hN
    have k1 : gK h1 m = 7 := (g3.ak (by omega)).trans hM.k0
    simp only [pu_n, v231_15, k1, true_and]
    exact rest _ _ (gX h) ((g3.mo (by omega)).pR (Nat.le_refl _)) (by show gX h ≤ gX h1; omega) (by show gX h1 ≤ _; omega) (by show gS h1 ≤ _; omega) hR1 rfl
end
