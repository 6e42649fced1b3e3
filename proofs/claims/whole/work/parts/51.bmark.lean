/-! THE CLASS'S bestMarkOf: not all marks are tried, but the best is the same -/
section
variable {r a o : Nat} {ρ β : Nat → Nat} {s : SG} {π : PR} {h h1 : Hp} {K : Option Value → Hp → Prop}
theorem c50_l (hO : SOk s) {t : Nat} (hp : ∀ v, POk (sgT s t 5 v) π) (hc : PCl π) (hf0 : pOff π = none) (ht : t < sN s) (kq : gK h (ρ t) = 8) (nq : gN h (ρ t) = 7)
    (kk : ∀ h2, Fr (YW o (ρ t) 5) h h2 → TP r a o ρ β s π h2 → K (some (.int (nI (bfN (fun v => gaI (sgT s t 5 v) π) 0 99).1))) h2) :
    ∀ (j v : Nat) (h1 : Hp) (w : Nat) (md : Bool) (v8 : Value), 100 ≤ v + j → v ≤ 100 → (v = 0 ∨ sT s t 3 < v) → (md = false → bcN (fun v => gaI (sgT s t 5 v) π) 0 v = bfN (fun v => gaI (sgT s t 5 v) π) 0 99) → w ≤ 99 → Fr (YW o (ρ t) 5) h h1 → TP r a o ρ β (sgT s t 5 w) π h1 →
      V 50 28 [.ref r, .int (nI t), .ref (ρ t), .int (nI (sT s t 5)), .int (nI (bcN (fun v => gaI (sgT s t 5 v) π) 0 v).1), .int (bcN (fun v => gaI (sgT s t 5 v) π) 0 v).2, .int (z2 md), .int (nI v), v8] [] h1 K := by
  have hn8 := hO.1
  have own := (hO.2.2.1 t ht).2.2.2.2.2.1
  have b5 := (hO.2.2.1 t ht).2.2.2.2.2.2.2.1
  -- the end
  have fin : ∀ (v : Nat) (h1 : Hp) (w : Nat) (v5 v6 v7 v8 : Value), w ≤ 99 → Fr (YW o (ρ t) 5) h h1 → TP r a o ρ β (sgT s t 5 w) π h1 → bcN (fun v => gaI (sgT s t 5 v) π) 0 v = bfN (fun v => gaI (sgT s t 5 v) π) 0 99 → V 50 91 [.ref r, .int (nI t), .ref (ρ t), .int (nI (sT s t 5)), .int (nI (bcN (fun v => gaI (sgT s t 5 v) π) 0 v).1), v5, v6, v7, v8] [] h1 K := by
    intro v h1 w v5 v6 v7 v8 hw hf hP1 he
    have k1 : gK h1 (ρ t) = 8 := hf.k.trans kq
    have n1 : gN h1 (ρ t) = 7 := hf.n.trans nq
    have hP2 := hP1.set (hO.set (t := t) (Or.inl ⟨rfl, rfl⟩) hw) (t := t) (k := 5) (v := sT s t 5) ht (Or.inl rfl)
    rw [sgT_2, sgT_0] at hP2
    simp only [v50_91, v50_92, v50_93, v50_94, v50_95, v50_97, k1, n1, ib7_0, ib7_1, ib7_2, ib7_3, ib7_4, ib7_5, ib7_6, ib3_0, ib3_1, ib3_2, ib4_0, ib4_1, ib4_2, ib4_3, tc0, tc1, tc2, tc3, tc4, tc5, tc6, true_and, he]
    exact kk _ (hf.pI (Or.inr ⟨rfl, rfl⟩)) hP2
  intro j
  induction j with
  | zero =>
    intro v h1 w md v8 hi hv100 _ _ hw hf hP1
    have e : v = 100 := by omega
    subst e
    have e8 : ((99 : Int32) < nI 100) = True := eq_true (by decide)
    simp only [v50_28, v50_30, v50_32, e8, reduceIte]
    exact fin 100 h1 w _ _ _ _ hw hf hP1 rfl
  | succ j ih =>
    intro v h1 w md v8 hi hv100 hvo hmd hw hf hP1
    by_cases e100 : v = 100
    · subst e100
      have e8 : ((99 : Int32) < nI 100) = True := eq_true (by decide)
      simp only [v50_28, v50_30, v50_32, e8, reduceIte]
      exact fin 100 h1 w _ _ _ _ hw hf hP1 rfl
    · have lt : ((99 : Int32) < nI v) = False := eq_false (nI_nlt (a := 99) (by omega) (by decide))
      cases md with
      | false =>
        simp only [v50_28, v50_30, v50_32, v50_35, v50_37, lt, z2_f, reduceIte]
        exact fin v h1 w _ _ _ _ hw hf hP1 (hmd rfl)
      | true =>
        have k1 : gK h1 (ρ t) = 8 := hf.k.trans kq
        have n1 : gN h1 (ρ t) = 7 := hf.n.trans nq
        have kr : gK h1 r = 5 := hP1.1.1
        simp only [v50_28, v50_30, v50_32, v50_35, v50_37, v50_40, v50_41, v50_42, v50_44, v50_45, v50_46, lt, z2_t, i10, k1, n1, kr, gI_pJ, gI_pR, gJ_pI, gJ_pR, gR_pI, gR_pJ, gK_pI, gK_pJ, gK_pR, gN_pI, gN_pJ, gN_pR, gX_pI, gX_pJ, gX_pR, gS_pI, gS_pJ, gS_pR, gK_cpI, gN_cpI, gK_cpJ, gN_cpJ, gR_cpI, gR_cpJ, gJ_cpI, gI_cpJ, ib7_0, ib7_1, ib7_2, ib7_3, ib7_4, ib7_5, ib7_6, ib3_0, ib3_1, ib3_2, ib4_0, ib4_1, ib4_2, ib4_3, tc0, tc1, tc2, tc3, tc4, tc5, tc6, reduceIte, true_and, true_or, and_self]
        have hO2 : SOk (sgT s t 5 v) := hO.set (t := t) (Or.inl ⟨rfl, rfl⟩) (show v ≤ 99 by omega)
        have hP2 := hP1.set (hO.set (t := t) (Or.inl ⟨rfl, rfl⟩) hw) (t := t) (k := 5) (v := v) ht (Or.inl rfl)
        rw [sgT_2] at hP2
        refine c43 hP2 hO2 (hp v) hc (fun h3 q3 hP3 hD3 => ?_)
        have q4 : Fr (YW o (ρ t) 5) h h3 := (hf.pI (Or.inr ⟨rfl, rfl⟩)).tr (q3.mo (fun x j z => Or.inl z))
        have f0 : (-1000 : Int32) < gaI (sgT s t 5 0) π := gaI_min (hO.set (t := t) (Or.inl ⟨rfl, rfl⟩) (Nat.zero_le _)) (hp 0)
        have bs := bcN_s (f := fun v => gaI (sgT s t 5 v) π) (lo := 0) f0 v
        rw [Nat.zero_add] at bs
        -- behind the comparison
        have rest : ∀ v8 : Value, V 50 66 [.ref r, .int (nI t), .ref (ρ t), .int (nI (sT s t 5)), .int (nI (bcN (fun v => gaI (sgT s t 5 v) π) 0 (v + 1)).1), .int (bcN (fun v => gaI (sgT s t 5 v) π) 0 (v + 1)).2, .int 1, .int (nI v), v8] [] h3 K := by
          intro v8
          have k3 : gK h3 (ρ t) = 8 := q4.k.trans kq
          have n3 : gN h3 (ρ t) = 7 := q4.n.trans nq
          have kr3 : gK h3 r = 5 := hP3.1.1
          have ro : gR h3 r 1 = some o := hP3.1.2.2.1
          have ko : gK h3 o = 1 := hP3.2.2.1.1
          have e3 := hP3.2.1.t (t := t) ht (k := 3) (by omega)
          rw [sgT_T (by decide)] at e3
          have mx : (if nI v < nI (sT s t 3) then nI (sT s t 3) else nI v) = nI (max v (sT s t 3)) := by
            simp only [nltN (show v < 2 ^ 31 by omega) (show sT s t 3 < 2 ^ 31 by omega), nite]
            congr 1
            split <;> omega
          simp only [v50_66, v50_67, v50_70, v50_71, kr3, ro, ko, vrf_s, true_and, c6 hP3 hO2 hD3 ht, pu_s, v50_74, v50_76, v50_78, v50_79, v50_80, v50_81, v50_84, v50_85, v50_86, k3, n3, ib7_0, ib7_1, ib7_2, ib7_3, ib7_4, ib7_5, ib7_6, ib3_0, ib3_1, ib3_2, ib4_0, ib4_1, ib4_2, ib4_3, tc0, tc1, tc2, tc3, tc4, tc5, tc6, e3, mx, nI_1, nI_add, true_or, and_self]
          rw [v50_88]
          have bw : bcN (fun v => gaI (sgT s t 5 v) π) 0 (max v (sT s t 3) + 1) = bcN (fun v => gaI (sgT s t 5 v) π) 0 (v + 1) := by
            rcases hvo with e | e
            · subst e
              have hm : max 0 (sT s t 3) = 0 + sT s t 3 := by omega
              rw [hm]
              exact bfN_flat (f := fun v => gaI (sgT s t 5 v) π) (lo := 0) (k := 0) (sT s t 3) (fun j hj => gaI_low (Nat.zero_le _) (by omega))
            · rw [show max v (sT s t 3) = v by omega]
          rw [← bw]
          refine ih (max v (sT s t 3) + 1) h3 v _ v8 (by omega) (by omega) (Or.inr (by omega)) (fun hs => ?_) (by omega) q4 hP3
          rw [bw]
          have fl := bfN_flat (f := fun v => gaI (sgT s t 5 v) π) (lo := 0) (k := v) (99 - v) (fun j hj => by
            show gaI (sgT s t 5 (0 + (v + j))) π = gaI (sgT s t 5 (0 + v)) π
            rw [Nat.zero_add, Nat.zero_add]
            exact gaI_mark hO hf0 (by omega) hs)
          rw [show v + (99 - v) = 99 by omega] at fl
          exact fl.symm
        show V 50 49 _ (pu (some _) []) h3 K
        by_cases g2 : (bcN (fun v => gaI (sgT s t 5 v) π) 0 v).2 < gaI (sgT s t 5 v) π
        · rw [if_pos g2] at bs
          rw [bs] at rest
          simp only [pu_s, v50_49, v50_51, v50_53, v50_55, v50_58, v50_60, v50_62, v50_64, Int32.not_le.mpr g2, reduceIte]
          exact rest _
        · rw [if_neg g2] at bs
          rw [bs] at rest
          simp only [pu_s, v50_49, v50_51, v50_53, v50_55, Int32.not_lt.mp g2, reduceIte]
          exact rest _
/-- bestMarkOf -/
theorem c50 (hP : TP r a o ρ β s π h) (hO : SOk s) (hp : POk s π) (hc : PCl π) (hf0 : pOff π = none) {t : Nat} (ht : t < sN s) (kk : ∀ h2, Fr (TW a o) h h2 → TP r a o ρ β s π h2 → K (some (.int (nI (bfN (fun v => gaI (sgT s t 5 v) π) 0 99).1))) h2) : AM 50 [.ref r, .int (nI t)] h K := by
  obtain ⟨⟨t1, t2, t3, t4, hQ, t6, t7⟩, hV, -⟩ := id hP
  obtain ⟨s1, s2, s3, s4, s5, s6, s7, s8, s9, s10, -⟩ := id hQ
  obtain ⟨u1, u2, u3, u4, u5⟩ := hQ.th (Nat.lt_of_lt_of_le ht hO.1)
  have hn8 := hO.1
  have c1 : (nI t).toNatClampNeg = t := nIc (by omega)
  have i1 : inb (nI t) 8 = True := nIb (by omega) (by omega)
  have b5 := (hO.2.2.1 t ht).2.2.2.2.2.2.2.1
  have e5 := hV.t ht (k := 5) (by omega)
  simp only [e50, v50_0, v50_1, v50_4, v50_7, v50_8, v50_9, v50_10, v50_11, v50_12, v50_13, v50_14, v50_15, v50_17, v50_20, v50_22, v50_23, v50_25, v50_26, t1, t2, s1, s2, s5, s6, vrf_s, u1, u2, u3, c1, i1, ib7_0, ib7_1, ib7_2, ib7_3, ib7_4, ib7_5, ib7_6, ib3_0, ib3_1, ib3_2, ib4_0, ib4_1, ib4_2, ib4_3, tc0, tc1, tc2, tc3, tc4, tc5, tc6, e5, true_and, true_or, or_true, and_self]
  refine c50_l hO (fun v => hp) hc hf0 ht u2 u3 (fun h2 q2 hP2 => kk h2 (q2.mo (fun x j z => by unfold YW OW at z; unfold TW; omega)) hP2) 100 0 h (sT s t 5) true un0 (by omega) (by omega) (Or.inl rfl) (fun z => by cases z) b5 Fr.rf ?_
  rw [sgT_0]
  exact hP
end
