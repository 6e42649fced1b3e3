/-! THE CLASS'S bestValue: the same number -/
def bcN (f : Nat → Int32) (lo : Nat) : Nat → Nat × Int32
  | 0 => (lo, -1000)
  | k + 1 => bfN f lo k
theorem bcN_s {f : Nat → Int32} {lo : Nat} (h0 : (-1000 : Int32) < f lo) (k : Nat) : bcN f lo (k + 1) = if (bcN f lo k).2 < f (lo + k) then (lo + k, f (lo + k)) else bcN f lo k := by
  cases k with
  | zero => exact (if_pos (show (-1000 : Int32) < f (lo + 0) from h0)).symm
  | succ k => rfl
theorem gaI_min {s : SG} {π : PR} (hO : SOk s) (hp : POk s π) : (-1000 : Int32) < gaI s π := by
  rw [Int32.lt_iff_toInt_lt, gaI_toInt hO hp]
  have := hoN_le (π := π) hO
  unfold gaN
  rw [show (-1000 : Int32).toInt = -1000 from rfl]
  omega
/-- what it writes: a morning, and one cell -/
def YW (o q k : Nat) (x j : Nat) : Prop := OW o x j ∨ (x = q ∧ j = k)
section
variable {r a o q k N : Nat} {ρ β : Nat → Nat} {σ : Nat → SG} {π : PR} {h h1 : Hp} {K : Option Value → Hp → Prop}
theorem c47_l (kq : gK h q = 8) (nq : gN h q = N) (hk : k < N) (hN : N ≤ 1000) {lo hi w0 : Nat} (hh : hi ≤ 1000) (hw0 : lo ≤ w0 ∧ w0 ≤ hi) (hO : ∀ v, lo ≤ v → v ≤ hi → SOk (σ v)) (hp : ∀ v, lo ≤ v → v ≤ hi → POk (σ v) π) (hc : PCl π)
    (hset : ∀ (h1 : Hp) (w v : Nat), lo ≤ w → w ≤ hi → lo ≤ v → v ≤ hi → TP r a o ρ β (σ w) π h1 → TP r a o ρ β (σ v) π (pI h1 q k (nI v)))
    (kk : ∀ h2, Fr (YW o q k) h h2 → TP r a o ρ β (σ w0) π h2 → K (some (.int (nI (bfN (fun v => gaI (σ v) π) lo (hi - lo)).1))) h2) :
    ∀ (j i : Nat) (h1 : Hp) (w : Nat) (v9 : Value), lo + i + j = hi + 1 → lo ≤ w → w ≤ hi → Fr (YW o q k) h h1 → TP r a o ρ β (σ w) π h1 →
      V 47 16 [.ref r, .ref q, .int (nI k), .int (nI lo), .int (nI hi), .int (nI w0), .int (nI (bcN (fun v => gaI (σ v) π) lo i).1), .int (bcN (fun v => gaI (σ v) π) lo i).2, .int (nI (lo + i)), v9] [] h1 K := by
  have ck : (nI k).toNatClampNeg = k := nIc (by omega)
  have ik : inb (nI k) N = True := nIb hk (by omega)
  have f0 : (-1000 : Int32) < gaI (σ lo) π := gaI_min (hO lo (Nat.le_refl _) (by omega)) (hp lo (Nat.le_refl _) (by omega))
  intro j
  induction j with
  | zero =>
    intro i h1 w v9 hi' hw1 hw2 hf hP1
    have e : i = (hi - lo) + 1 := by omega
    subst e
    have e8 : (nI hi < nI (lo + (hi - lo + 1))) = True := eq_true (nI_lt (by omega) (by omega))
    have k1 : gK h1 q = 8 := hf.k.trans kq
    have n1 : gN h1 q = N := hf.n.trans nq
    simp only [v47_16, v47_18, v47_20, v47_55, v47_56, v47_57, v47_59, v47_60, v47_62, e8, reduceIte, k1, n1, ck, ik, true_and, and_self]
    exact kk _ (hf.pI (Or.inr ⟨rfl, rfl⟩)) (hset h1 w w0 hw1 hw2 hw0.1 hw0.2 hP1)
  | succ j ih =>
    intro i h1 w v9 hi' hw1 hw2 hf hP1
    have lt : (nI hi < nI (lo + i)) = False := eq_false (nI_nlt (by omega) (by omega))
    have k1 : gK h1 q = 8 := hf.k.trans kq
    have n1 : gN h1 q = N := hf.n.trans nq
    have kr : gK h1 r = 5 := hP1.1.1
    simp only [v47_16, v47_18, v47_20, v47_23, v47_24, v47_25, v47_27, v47_28, v47_29, lt, reduceIte, gI_pJ, gI_pR, gJ_pI, gJ_pR, gR_pI, gR_pJ, gK_pI, gK_pJ, gK_pR, gN_pI, gN_pJ, gN_pR, gX_pI, gX_pJ, gX_pR, gS_pI, gS_pJ, gS_pR, gK_cpI, gN_cpI, gK_cpJ, gN_cpJ, gR_cpI, gR_cpJ, gJ_cpI, gI_cpJ, k1, n1, kr, ck, ik, true_and, and_self]
    have hP2 := hset h1 w (lo + i) hw1 hw2 (by omega) (by omega) hP1
    have hO2 := hO (lo + i) (by omega) (by omega)
    refine c43 hP2 hO2 (hp (lo + i) (by omega) (by omega)) hc (fun h3 q3 hP3 hD3 => ?_)
    have q4 : Fr (YW o q k) h h3 := (hf.pI (Or.inr ⟨rfl, rfl⟩)).tr (q3.mo (fun x j z => Or.inl z))
    have go := fun v9 : Value => ih (i + 1) h3 (lo + i) v9 (by omega) (by omega) (by omega) q4 hP3
    rw [bcN_s f0] at go
    show V 47 32 _ (pu (some _) []) h3 K
    by_cases g2 : (bcN (fun v => gaI (σ v) π) lo i).2 < gaI (σ (lo + i)) π
    · rw [if_pos g2] at go
      simp only [pu_s, v47_32, v47_34, v47_36, v47_38, v47_41, v47_43, v47_45, v47_47, v47_49, Int32.not_le.mpr g2, reduceIte, nI_1]
      rw [v47_52]
      exact go _
    · rw [if_neg g2] at go
      simp only [pu_s, v47_32, v47_34, v47_36, v47_38, v47_49, Int32.not_lt.mp g2, reduceIte, nI_1]
      rw [v47_52]
      exact go _
/-- bestValue -/
theorem c47 (kq : gK h q = 8) (nq : gN h q = N) (hk : k < N) (hN : N ≤ 1000) {lo hi w0 : Nat} (hh : hi ≤ 1000) (hw0 : lo ≤ w0 ∧ w0 ≤ hi) (hO : ∀ v, lo ≤ v → v ≤ hi → SOk (σ v)) (hp : ∀ v, lo ≤ v → v ≤ hi → POk (σ v) π) (hc : PCl π)
    (hset : ∀ (h1 : Hp) (w v : Nat), lo ≤ w → w ≤ hi → lo ≤ v → v ≤ hi → TP r a o ρ β (σ w) π h1 → TP r a o ρ β (σ v) π (pI h1 q k (nI v))) (hP : TP r a o ρ β (σ w0) π h) (hw : gI h q k = nI w0)
    (kk : ∀ h2, Fr (YW o q k) h h2 → TP r a o ρ β (σ w0) π h2 → K (some (.int (nI (bfN (fun v => gaI (σ v) π) lo (hi - lo)).1))) h2) : AM 47 [.ref r, .ref q, .int (nI k), .int (nI lo), .int (nI hi)] h K := by
  have ck : (nI k).toNatClampNeg = k := nIc (by omega)
  have ik : inb (nI k) N = True := nIb hk (by omega)
  simp only [e47, v47_0, v47_1, v47_2, v47_3, v47_5, v47_6, v47_8, v47_11, v47_13, v47_14, kq, nq, ck, ik, hw, true_or, true_and, and_self]
  exact c47_l kq nq hk hN hh hw0 hO hp hc hset kk (hi + 1 - lo) 0 h w0 un0 (by omega) hw0.1 hw0.2 Fr.rf hP
end
