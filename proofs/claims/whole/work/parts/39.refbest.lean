/-! the best number of many; THE REFERENCE'S bestOf -/
/-- the first greatest of f at lo .. lo + k, and its gain -/
def bfN (f : Nat → Int32) (lo : Nat) : Nat → Nat × Int32
  | 0 => (lo, f lo)
  | k + 1 => if (bfN f lo k).2 < f (lo + (k + 1)) then (lo + (k + 1), f (lo + (k + 1))) else bfN f lo k
def bsN (f : Nat → Int32) : Nat → Nat × Int32
  | 0 => (0, 0)
  | v + 1 => bfN f 0 v
theorem bsN_s (f : Nat → Int32) (v : Nat) : bsN f (v + 1) = if v = 0 ∨ (bsN f v).2 < f v then (v, f v) else bsN f v := by
  cases v with
  | zero => rfl
  | succ v =>
    show bfN f 0 (v + 1) = _
    unfold bfN
    rw [Nat.zero_add]
    by_cases h : (bfN f 0 v).2 < f (v + 1)
    · rw [if_pos h]
      exact (if_pos (Or.inr h)).symm
    · rw [if_neg h]
      exact (if_neg (fun z => z.elim (fun z => by omega) h)).symm
/-- a stall with one cell of a thing changed -/
def sgT (s : SG) (t k v : Nat) : SG := (sN s, sM s, up (sT s) t (up (sT s t) k v), sB s, sA s)
theorem sgT_2 (s : SG) (t k v w : Nat) : sgT (sgT s t k v) t k w = sgT s t k w := by
  have e : up (up (sT s) t (up (sT s t) k v)) t (up (up (sT s) t (up (sT s t) k v) t) k w) = up (sT s) t (up (sT s t) k w) := by
    funext u j
    by_cases h : u = t
    · subst h
      rw [up_at, up_at, up_at]
      by_cases h2 : j = k
      · subst h2
        rw [up_at, up_at]
      · rw [up_ne h2, up_ne h2, up_ne h2]
    · rw [up_ne h, up_ne h, up_ne h]
  show (sN s, sM s, up (up (sT s) t (up (sT s t) k v)) t (up (up (sT s) t (up (sT s t) k v) t) k w), sB s, sA s) = _
  rw [e]
  rfl
theorem sgT_0 (s : SG) (t k : Nat) : sgT s t k (sT s t k) = s := by
  have e : up (sT s) t (up (sT s t) k (sT s t k)) = sT s := by
    funext u j
    by_cases h : u = t
    · subst h
      rw [up_at]
      by_cases h2 : j = k
      · subst h2
        rw [up_at]
      · rw [up_ne h2]
    · rw [up_ne h]
  show (sN s, sM s, up (sT s) t (up (sT s t) k (sT s t k)), sB s, sA s) = s
  rw [e]
  rfl
/-- the mark, or the hour from which -/
def mkC (k most : Nat) : Prop := (k = 5 ∧ most = 99) ∨ (k = 6 ∧ most = 7)
theorem SOk.set {s : SG} (hO : SOk s) {t k v most : Nat} (hk : mkC k most) (hv : v ≤ most) : SOk (sgT s t k v) := by
  obtain ⟨o1, o2, o3, o4⟩ := hO
  refine ⟨o1, o2, fun u hu => ?_, o4⟩
  have o5 := o3 u hu
  have n : ∀ j, j ≠ k → sT (sgT s t k v) u j = sT s u j := fun j hj => by
    show up (sT s) t (up (sT s t) k v) u j = _
    by_cases h : u = t
    · subst h; rw [up_at, up_ne hj]
    · rw [up_ne h]
  have m : sT (sgT s t k v) u k = v ∨ sT (sgT s t k v) u k = sT s u k := by
    show up (sT s) t (up (sT s t) k v) u k = v ∨ up (sT s) t (up (sT s t) k v) u k = _
    by_cases h : u = t
    · subst h; rw [up_at, up_at]; exact Or.inl rfl
    · rw [up_ne h]; exact Or.inr rfl
  rcases hk with ⟨rfl, rfl⟩ | ⟨rfl, rfl⟩
  · rw [n 0 (by decide), n 1 (by decide), n 2 (by decide), n 3 (by decide), n 4 (by decide), n 6 (by decide)]
    omega
  · rw [n 0 (by decide), n 1 (by decide), n 2 (by decide), n 3 (by decide), n 4 (by decide), n 5 (by decide)]
    omega
section
variable {m : Nat} {s : SG} {π : PR} {h h1 : Hp} {K : Option Value → Hp → Prop}
theorem MP.set (hP : MP m s h) (hO : SOk s) {t k v : Nat} (ht : t < sN s) : MP m (sgT s t k v) (pI h (m + (18 + t)) k (nI v)) := by
  obtain ⟨p1, p2, p3, p4, p5⟩ := hP
  have hn8 := hO.1
  refine ⟨by rw [gI_ne (by omega)]; exact p1, by rw [gI_ne (by omega)]; exact p2, fun u hu j hj => ?_, fun b hb j hj => by rw [gI_ne (by have : sM (sgT s t k v) = sM s := rfl; omega)]; exact p4 b hb j hj, fun j hj => by rw [gI_ne (by omega)]; exact p5 j hj⟩
  show _ = nI (up (sT s) t (up (sT s t) k v) u j)
  by_cases e1 : u = t
  · subst e1
    rw [up_at]
    by_cases e2 : j = k
    · subst e2
      rw [gI_at, up_at]
    · rw [gI_ne (fun z => e2 z.2), up_ne e2]
      exact p3 u hu j hj
  · rw [gI_ne (by omega), up_ne e1]
    exact p3 u hu j hj
/-- what bestOf writes -/
def XW (m t : Nat) (x j : Nat) : Prop := DW m x j ∨ x = m + (18 + t)
theorem MSh.xw (hM : MSh m h) {t : Nat} (ht : t < 8) (q : Fr (XW m t) h h1) : MSh m h1 := hM.fr q (fun a j z => by
  unfold XW DW at z
  refine ⟨by omega, fun w => ?_⟩
  have h39 : j = 39 := by omega
  rw [h39] at w
  exact absurd w.2 (by decide))
theorem PP.xw (hp : PP m π h) {t : Nat} (q : Fr (XW m t) h h1) : PP m π h1 := hp.fr q (fun j h1 h2 z => by unfold XW DW at z; omega)
theorem c196_l (hM : MSh m h) (hP : MP m s h) (hO : SOk s) (hp : POk s π) (hpp : PP m π h) {t k most : Nat} (ht : t < sN s) (hk : mkC k most) (kk : ∀ h2, Fr (XW m t) h h2 → MP m s h2 → K (some (.int (nI (bfN (fun v => gaI (sgT s t k v) π) 0 most).1))) h2) :
    ∀ (j v : Nat) (h1 : Hp) (w : Nat) (v8 : Value), v + j = most + 1 → w ≤ most → Fr (XW m t) h h1 → MP m (sgT s t k w) h1 → (v = 0 ∨ True) →
      V 196 19 [.ref m, .int (nI t), .int (nI k), .int (nI most), .int (nI (sT s t k)), .int (nI (bsN (fun v => gaI (sgT s t k v) π) v).1), .int (bsN (fun v => gaI (sgT s t k v) π) v).2, .int (nI v), v8] [] h1 K := by
  have hn8 := hO.1
  have hm : most ≤ 99 := by unfold mkC at hk; omega
  have hk7 : k < 7 := by unfold mkC at hk; omega
  have ht8 : t < 8 := by omega
  have ck : (nI k).toNatClampNeg = k := nIc (by omega)
  have ik : inb (nI k) 7 = True := nIb hk7 (by omega)
  have c1 : (nI t).toNatClampNeg = t := nIc (by omega)
  have i1 : inb (nI t) 8 = True := nIb ht8 (by omega)
  intro j
  induction j with
  | zero =>
    intro v h1 w v8 hi hw hf hP1 _
    have e : v = most + 1 := by omega
    subst e
    have hM1 := hM.xw ht8 hf
    obtain ⟨t1, t2, t3⟩ := hM1.th ht8
    have e8 : (nI most < nI (most + 1)) = True := eq_true (nI_lt (by omega) (by omega))
    simp only [v196_19, v196_21, v196_22, v196_67, v196_68, v196_71, v196_72, v196_73, v196_74, v196_76, v196_77, v196_79, e8, reduceIte, hM1.k0, hM1.f10, hM1.k17, hM1.n17, vrf_s, t1, t2, t3, c1, i1, ck, ik, true_and, true_or, or_true, and_self]
    have hP2 := hP1.set (hO.set (t := t) hk hw) (t := t) (k := k) (v := sT s t k) ht
    rw [sgT_2, sgT_0] at hP2
    exact kk _ (hf.pI (Or.inr rfl)) hP2
  | succ j ih =>
    intro v h1 w v8 hi hw hf hP1 _
    have hM1 := hM.xw ht8 hf
    obtain ⟨t1, t2, t3⟩ := hM1.th ht8
    have lt : (nI most < nI v) = False := eq_false (nI_nlt (by omega) (by omega))
    simp only [v196_19, v196_21, v196_22, v196_25, v196_26, v196_29, v196_30, v196_31, v196_32, v196_34, v196_35, v196_36, lt, reduceIte, gI_pJ, gI_pR, gJ_pI, gJ_pR, gR_pI, gR_pJ, gK_pI, gK_pJ, gK_pR, gN_pI, gN_pJ, gN_pR, gX_pI, gX_pJ, gX_pR, gS_pI, gS_pJ, gS_pR, gK_cpI, gN_cpI, gK_cpJ, gN_cpJ, gR_cpI, gR_cpJ, gJ_cpI, gI_cpJ, hM1.k0, hM1.f10, hM1.k17, hM1.n17, vrf_s, t1, t2, t3, c1, i1, ck, ik, true_and, true_or, or_true, and_self]
    have hP2 := hP1.set (hO.set (t := t) hk hw) (t := t) (k := k) (v := v) ht
    rw [sgT_2] at hP2
    have hO2 : SOk (sgT s t k v) := hO.set (t := t) hk (show v ≤ most by omega)
    have q2 : Fr (XW m t) h (pI h1 (m + (18 + t)) k (nI v)) := hf.pI (Or.inr rfl)
    refine c188 (hM.xw ht8 q2) hP2 hO2 hp (hpp.xw q2) (fun h3 q3 hD3 => ?_)
    have q4 : Fr (XW m t) h h3 := q2.tr (q3.mo (fun x j z => Or.inl z))
    have hP3 := hP2.dw hO2 q3
    have go := fun v8 : Value => ih (v + 1) h3 v v8 (by omega) (by omega) q4 hP3 (Or.inr trivial)
    rw [bsN_s] at go
    have lv : (nI v = 0) = (v = 0) := (nLit (s := v) (by omega)).1
    show V 196 39 _ (pu (some _) []) h3 K
    by_cases g : v = 0
    · rw [if_pos (Or.inl g)] at go
      simp only [pu_s, v196_39, v196_41, v196_43, v196_53, v196_55, v196_57, v196_59, v196_61, lv, g, reduceIte, nI_1]
      rw [v196_64]
      simp only [g] at go
      exact go _
    · by_cases g2 : (bsN (fun v => gaI (sgT s t k v) π) v).2 < gaI (sgT s t k v) π
      · rw [if_pos (Or.inr g2)] at go
        simp only [pu_s, v196_39, v196_41, v196_43, v196_46, v196_48, v196_50, v196_53, v196_55, v196_57, v196_59, v196_61, lv, g, reduceIte, Int32.not_le.mpr g2, nI_1]
        rw [v196_64]
        exact go _
      · rw [if_neg (fun z => z.elim g g2)] at go
        simp only [pu_s, v196_39, v196_41, v196_43, v196_46, v196_48, v196_50, v196_61, lv, g, reduceIte, Int32.not_lt.mp g2, nI_1]
        rw [v196_64]
        exact go _
/-- bestOf -/
theorem c196 (hM : MSh m h) (hP : MP m s h) (hO : SOk s) (hp : POk s π) (hpp : PP m π h) {t k most : Nat} (ht : t < sN s) (hk : mkC k most) (kk : ∀ h2, Fr (XW m t) h h2 → MP m s h2 → K (some (.int (nI (bfN (fun v => gaI (sgT s t k v) π) 0 most).1))) h2) : AM 196 [.ref m, .int (nI t), .int (nI k), .int (nI most)] h K := by
  have hn8 := hO.1
  have hk7 : k < 7 := by unfold mkC at hk; omega
  have ht8 : t < 8 := by omega
  have ck : (nI k).toNatClampNeg = k := nIc (by omega)
  have ik : inb (nI k) 7 = True := nIb hk7 (by omega)
  have c1 : (nI t).toNatClampNeg = t := nIc (by omega)
  have i1 : inb (nI t) 8 = True := nIb ht8 (by omega)
  obtain ⟨t1, t2, t3⟩ := hM.th ht8
  have ek := hP.t ht hk7
  have hw : sT s t k ≤ most := by
    have := hO.2.2.1 t ht
    rcases hk with ⟨rfl, rfl⟩ | ⟨rfl, rfl⟩ <;> omega
  simp only [e196, v196_0, v196_1, v196_4, v196_5, v196_6, v196_7, v196_8, v196_10, v196_11, v196_13, v196_14, v196_16, v196_17, hM.k0, hM.f10, hM.k17, hM.n17, vrf_s, t1, t2, t3, c1, i1, ck, ik, ek, true_and, true_or, or_true, and_self]
  exact c196_l hM hP hO hp hpp ht hk kk (most + 1) 0 h (sT s t k) un0 (Nat.zero_add _) hw Fr.rf (by rw [sgT_0]; exact hP) (Or.inl rfl)
end
