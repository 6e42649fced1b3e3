/-! THE REFERENCE'S bestAsked -/
def loA (w : Nat) : Nat := if w = 0 then 1 else 0
def hiA (w : Nat) : Nat := if w = 0 then 30 else if w = 1 then 14 else if w = 2 then 1 else 9
theorem loA_I {w : Nat} (hw : w < 4) : (if nI w = 0 then (1 : Int32) else 0) = nI (loA w) := by
  have hw' : w = 0 ∨ w = 1 ∨ w = 2 ∨ w = 3 := by omega
  rcases hw' with rfl | rfl | rfl | rfl <;> decide
theorem hiA_I {w : Nat} (hw : w < 4) : (if nI w = 0 then (30 : Int32) else if nI w = 1 then 14 else if nI w = 2 then 1 else 9) = nI (hiA w) := by
  have hw' : w = 0 ∨ w = 1 ∨ w = 2 ∨ w = 3 := by omega
  rcases hw' with rfl | rfl | rfl | rfl <;> decide
theorem loA_le (w : Nat) : loA w ≤ hiA w ∧ hiA w ≤ 30 := by
  unfold loA hiA
  split
  · omega
  · split
    · omega
    · split <;> omega
/-- a stall with one setting changed -/
def sgA (s : SG) (k v : Nat) : SG := (sN s, sM s, sT s, sB s, up (sA s) k v)
theorem sgA_2 (s : SG) (k v w : Nat) : sgA (sgA s k v) k w = sgA s k w := by
  have e : up (up (sA s) k v) k w = up (sA s) k w := by
    funext j
    by_cases h : j = k
    · subst h; rw [up_at, up_at]
    · rw [up_ne h, up_ne h, up_ne h]
  show (sN s, sM s, sT s, sB s, up (up (sA s) k v) k w) = _
  rw [e]
  rfl
theorem sgA_0 (s : SG) (k : Nat) : sgA s k (sA s k) = s := by
  have e : up (sA s) k (sA s k) = sA s := by
    funext j
    by_cases h : j = k
    · subst h; rw [up_at]
    · rw [up_ne h]
  show (sN s, sM s, sT s, sB s, up (sA s) k (sA s k)) = s
  rw [e]
  rfl
theorem SOk.ask {s : SG} (hO : SOk s) {k v : Nat} (hk : k < 4) (h1 : loA k ≤ v) (h2 : v ≤ hiA k) : SOk (sgA s k v) := by
  obtain ⟨o1, o2, o3, o4, o5, o6⟩ := hO
  refine ⟨o1, o2, o3, o4, o5, ?_⟩
  have hk' : k = 0 ∨ k = 1 ∨ k = 2 ∨ k = 3 := by omega
  have n : ∀ j, j ≠ k → sA (sgA s k v) j = sA s j := fun j hj => up_ne hj
  have m : sA (sgA s k v) k = v := up_at _ _ _
  rcases hk' with rfl | rfl | rfl | rfl
  · rw [m, n 1 (by decide), n 2 (by decide), n 3 (by decide)]
    change 1 ≤ v at h1
    change v ≤ 30 at h2
    omega
  · rw [m, n 0 (by decide), n 2 (by decide), n 3 (by decide)]
    change v ≤ 14 at h2
    omega
  · rw [m, n 0 (by decide), n 1 (by decide), n 3 (by decide)]
    change v ≤ 1 at h2
    omega
  · rw [m, n 0 (by decide), n 1 (by decide), n 2 (by decide)]
    change v ≤ 9 at h2
    omega
theorem SOk.askB {s : SG} (hO : SOk s) {k : Nat} (hk : k < 4) : loA k ≤ sA s k ∧ sA s k ≤ hiA k := by
  obtain ⟨-, -, -, -, -, o6, o7, o8, o9, o10⟩ := hO
  have hk' : k = 0 ∨ k = 1 ∨ k = 2 ∨ k = 3 := by omega
  rcases hk' with rfl | rfl | rfl | rfl
  · exact ⟨o6, o7⟩
  · exact ⟨Nat.zero_le _, o8⟩
  · exact ⟨Nat.zero_le _, o9⟩
  · exact ⟨Nat.zero_le _, o10⟩
def bqN (f : Nat → Int32) (lo : Nat) : Nat → Int32 × Int32
  | 0 => (-1, 0)
  | k + 1 => (nI (bfN f lo k).1, (bfN f lo k).2)
theorem bfN_le (f : Nat → Int32) (lo : Nat) : ∀ k : Nat, (bfN f lo k).1 ≤ lo + k
  | 0 => Nat.le_refl _
  | k + 1 => by
    have ih := bfN_le f lo k
    unfold bfN
    split
    · exact Nat.le_refl _
    · omega
theorem bqN_s (f : Nat → Int32) (lo k : Nat) (hk : lo + k ≤ 1000) : bqN f lo (k + 1) = if (bqN f lo k).1 = -1 ∨ (bqN f lo k).2 < f (lo + k) then (nI (lo + k), f (lo + k)) else bqN f lo k := by
  cases k with
  | zero => rfl
  | succ k =>
    have hb := bfN_le f lo k
    have l1 : (nI (bfN f lo k).1 = -1) = False := nm1 (by omega)
    show (nI (bfN f lo (k + 1)).1, (bfN f lo (k + 1)).2) = if nI (bfN f lo k).1 = -1 ∨ (bfN f lo k).2 < f (lo + (k + 1)) then _ else (nI (bfN f lo k).1, (bfN f lo k).2)
    simp only [l1, false_or]
    have e : bfN f lo (k + 1) = if (bfN f lo k).2 < f (lo + (k + 1)) then (lo + (k + 1), f (lo + (k + 1))) else bfN f lo k := rfl
    rw [e]
    by_cases h : (bfN f lo k).2 < f (lo + (k + 1))
    · rw [if_pos h, if_pos h]
    · rw [if_neg h, if_neg h]
section
variable {m : Nat} {s : SG} {π : PR} {h h1 : Hp} {K : Option Value → Hp → Prop}
theorem MP.ask (hP : MP m s h) (hO : SOk s) {k v : Nat} : MP m (sgA s k v) (pI h (m + 51) k (nI v)) := by
  obtain ⟨p1, p2, p3, p4, p5⟩ := hP
  have hn8 := hO.1
  have hm := hO.2.1
  refine ⟨by rw [gI_ne (by omega)]; exact p1, by rw [gI_ne (by omega)]; exact p2, fun u hu j hj => ?_, fun b hb j hj => ?_, fun j hj => ?_⟩
  · have : sN (sgA s k v) = sN s := rfl
    rw [gI_ne (by omega)]; exact p3 u hu j hj
  · have : sM (sgA s k v) = sM s := rfl
    rw [gI_ne (by omega)]; exact p4 b hb j hj
  · show _ = nI (up (sA s) k v j)
    by_cases e : j = k
    · subst e; rw [gI_at, up_at]
    · rw [gI_ne (fun z => e z.2), up_ne e]; exact p5 j hj
def ZW (m : Nat) (x j : Nat) : Prop := DW m x j ∨ x = m + 51
theorem MSh.zw (hM : MSh m h) (q : Fr (ZW m) h h1) : MSh m h1 := hM.fr q (fun a j z => by
  unfold ZW DW at z
  refine ⟨by omega, fun w => ?_⟩
  have h39 : j = 39 := by omega
  rw [h39] at w
  exact absurd w.2 (by decide))
theorem PP.zw (hp : PP m π h) (q : Fr (ZW m) h h1) : PP m π h1 := hp.fr q (fun j h1 h2 z => by unfold ZW DW at z; omega)
theorem c199_l (hM : MSh m h) (hO : SOk s) (hp : POk s π) (hpp : PP m π h) {k : Nat} (hk : k < 4) (kk : ∀ h2, Fr (ZW m) h h2 → MP m s h2 → K (some (.int (nI (bfN (fun v => gaI (sgA s k v) π) (loA k) (hiA k - loA k)).1))) h2) :
    ∀ (j i : Nat) (h1 : Hp) (w : Nat) (v6 : Value), loA k + i + j = hiA k + 1 → loA k ≤ w → w ≤ hiA k → Fr (ZW m) h h1 → MP m (sgA s k w) h1 →
      V 199 18 [.ref m, .int (nI k), .int (nI (sA s k)), .int (bqN (fun v => gaI (sgA s k v) π) (loA k) i).1, .int (bqN (fun v => gaI (sgA s k v) π) (loA k) i).2, .int (nI (loA k + i)), v6] [] h1 K := by
  have hlh := loA_le k
  have ck : (nI k).toNatClampNeg = k := nIc (by omega)
  have ik : inb (nI k) 4 = True := nIb hk (by omega)
  have cm := fun (K : Option Value → Hp → Prop) (h : Hp) => c156 (h := h) (K := K) (nI k)
  have hb := hO.askB hk
  intro j
  induction j with
  | zero =>
    intro i h1 w v6 hi hw1 hw2 hf hP1
    have e : i = (hiA k - loA k) + 1 := by omega
    subst e
    have hM1 := hM.zw hf
    have e8 : (nI (hiA k) < nI (loA k + (hiA k - loA k + 1))) = True := eq_true (nI_lt (by omega) (by omega))
    simp only [v199_18, v199_20, v199_21, cm, hiA_I hk, pu_s, v199_24, v199_66, v199_67, v199_70, v199_71, v199_72, v199_73, v199_74, e8, reduceIte, hM1.k0, hM1.f13, hM1.k51, hM1.n51, vrf_s, ck, ik, true_and, and_self]
    have hP2 := hP1.ask (hO.ask hk hw1 hw2) (k := k) (v := sA s k)
    rw [sgA_2, sgA_0] at hP2
    exact kk _ (hf.pI (Or.inr rfl)) hP2
  | succ j ih =>
    intro i h1 w v6 hi hw1 hw2 hf hP1
    have hM1 := hM.zw hf
    have lt : (nI (hiA k) < nI (loA k + i)) = False := eq_false (nI_nlt (by omega) (by omega))
    simp only [v199_18, v199_20, v199_21, cm, hiA_I hk, pu_s, v199_24, v199_27, v199_28, v199_31, v199_32, v199_34, v199_35, v199_36, lt, reduceIte, gI_pJ, gI_pR, gJ_pI, gJ_pR, gR_pI, gR_pJ, gK_pI, gK_pJ, gK_pR, gN_pI, gN_pJ, gN_pR, gX_pI, gX_pJ, gX_pR, gS_pI, gS_pJ, gS_pR, gK_cpI, gN_cpI, gK_cpJ, gN_cpJ, gR_cpI, gR_cpJ, gJ_cpI, gI_cpJ, hM1.k0, hM1.f13, hM1.k51, hM1.n51, vrf_s, ck, ik, true_and, and_self]
    have hP2 := hP1.ask (hO.ask hk hw1 hw2) (k := k) (v := loA k + i)
    rw [sgA_2] at hP2
    have hO2 : SOk (sgA s k (loA k + i)) := hO.ask hk (by omega) (by omega)
    have q2 : Fr (ZW m) h (pI h1 (m + 51) k (nI (loA k + i))) := hf.pI (Or.inr rfl)
    refine c188 (hM.zw q2) hP2 hO2 hp (hpp.zw q2) (fun h3 q3 hD3 => ?_)
    have q4 : Fr (ZW m) h h3 := q2.tr (q3.mo (fun x j z => Or.inl z))
    have hP3 := hP2.dw hO2 q3
    have go := fun v6 : Value => ih (i + 1) h3 (loA k + i) v6 (by omega) (by omega) (by omega) q4 hP3
    rw [bqN_s _ _ _ (by omega)] at go
    show V 199 39 _ (pu (some _) []) h3 K
    by_cases g : (bqN (fun v => gaI (sgA s k v) π) (loA k) i).1 = -1
    · rw [if_pos (Or.inl g)] at go
      simp only [pu_s, v199_39, v199_41, v199_42, v199_43, v199_53, v199_55, v199_56, v199_58, v199_60, g, reduceIte, nI_1]
      rw [v199_63]
      exact go _
    · by_cases g2 : (bqN (fun v => gaI (sgA s k v) π) (loA k) i).2 < gaI (sgA s k (loA k + i)) π
      · rw [if_pos (Or.inr g2)] at go
        simp only [pu_s, v199_39, v199_41, v199_42, v199_43, v199_46, v199_48, v199_50, v199_53, v199_55, v199_56, v199_58, v199_60, g, reduceIte, Int32.not_le.mpr g2, nI_1]
        rw [v199_63]
        exact go _
      · rw [if_neg (fun z => z.elim g g2)] at go
        simp only [pu_s, v199_39, v199_41, v199_42, v199_43, v199_46, v199_48, v199_50, v199_60, g, reduceIte, Int32.not_lt.mp g2, nI_1]
        rw [v199_63]
        exact go _
/-- bestAsked -/
theorem c199 (hM : MSh m h) (hP : MP m s h) (hO : SOk s) (hp : POk s π) (hpp : PP m π h) {k : Nat} (hk : k < 4) (kk : ∀ h2, Fr (ZW m) h h2 → MP m s h2 → K (some (.int (nI (bfN (fun v => gaI (sgA s k v) π) (loA k) (hiA k - loA k)).1))) h2) : AM 199 [.ref m, .int (nI k)] h K := by
  have hlh := loA_le k
  have ck : (nI k).toNatClampNeg = k := nIc (by omega)
  have ik : inb (nI k) 4 = True := nIb hk (by omega)
  have cm := fun (K : Option Value → Hp → Prop) (h : Hp) => c157 (h := h) (K := K) (nI k)
  have hb := hO.askB hk
  simp only [e199, v199_0, v199_1, v199_4, v199_5, v199_6, v199_7, v199_8, v199_9, v199_10, v199_12, v199_13, cm, loA_I hk, pu_s, v199_16, hM.k0, hM.f13, hM.k51, hM.n51, vrf_s, ck, ik, hP.a hk, true_or, true_and, and_self]
  exact c199_l hM hO hp hpp hk kk (hiA k + 1 - loA k) 0 h (sA s k) un0 (by omega) hb.1 hb.2 Fr.rf (by rw [sgA_0]; exact hP)
end
