/-! THINGS: thing, on both sides -/
theorem n124 (v : Int32) (c l m : Nat) (hl : tbv 2 c = nI l) (hm : tbv 3 c = nI m) : inI v (tbv 2 c) (tbv 3 c) = (rgI l m v).isSome := by rw [hl, hm, rgI_I]
theorem n125 (v : Int32) (c l m : Nat) (hl : tbv 4 c = nI l) (hm : tbv 5 c = nI m) : inI v (tbv 4 c) (tbv 5 c) = (rgI l m v).isSome := by rw [hl, hm, rgI_I]
section
variable {b : Nat} {h : Hp} {K : Option Value → Hp → Prop}
theorem c124_0 (hC : CN b h) (v : Int32) : AM 124 [.int 0, .int v] h K = K (some (.int (z2 (rgI 0 5 v).isSome))) h := (c124 hC 0 (by decide) v).trans (by rw [n124 v 0 0 5 rfl rfl])
theorem c124_1 (hC : CN b h) (v : Int32) : AM 124 [.int 1, .int v] h K = K (some (.int (z2 (rgI 1 99 v).isSome))) h := (c124 hC 1 (by decide) v).trans (by rw [n124 v 1 1 99 rfl rfl])
theorem c124_2 (hC : CN b h) (v : Int32) : AM 124 [.int 2, .int v] h K = K (some (.int (z2 (rgI 1 9 v).isSome))) h := (c124 hC 2 (by decide) v).trans (by rw [n124 v 2 1 9 rfl rfl])
theorem c124_3 (hC : CN b h) (v : Int32) : AM 124 [.int 3, .int v] h K = K (some (.int (z2 (rgI 0 99 v).isSome))) h := (c124 hC 3 (by decide) v).trans (by rw [n124 v 3 0 99 rfl rfl])
theorem c124_4 (hC : CN b h) (v : Int32) : AM 124 [.int 4, .int v] h K = K (some (.int (z2 (rgI 0 9 v).isSome))) h := (c124 hC 4 (by decide) v).trans (by rw [n124 v 4 0 9 rfl rfl])
theorem c124_5 (hC : CN b h) (v : Int32) : AM 124 [.int 5, .int v] h K = K (some (.int (z2 (rgI 0 99 v).isSome))) h := (c124 hC 5 (by decide) v).trans (by rw [n124 v 5 0 99 rfl rfl])
theorem c124_6 (hC : CN b h) (v : Int32) : AM 124 [.int 6, .int v] h K = K (some (.int (z2 (rgI 0 7 v).isSome))) h := (c124 hC 6 (by decide) v).trans (by rw [n124 v 6 0 7 rfl rfl])
theorem c125_0 (hC : CN b h) (v : Int32) : AM 125 [.int 0, .int v] h K = K (some (.int (z2 (rgI 0 6 v).isSome))) h := (c125 hC 0 (by decide) v).trans (by rw [n125 v 0 0 6 rfl rfl])
theorem c125_1 (hC : CN b h) (v : Int32) : AM 125 [.int 1, .int v] h K = K (some (.int (z2 (rgI 0 3 v).isSome))) h := (c125 hC 1 (by decide) v).trans (by rw [n125 v 1 0 3 rfl rfl])
theorem c125_2 (hC : CN b h) (v : Int32) : AM 125 [.int 2, .int v] h K = K (some (.int (z2 (rgI 1 99 v).isSome))) h := (c125 hC 2 (by decide) v).trans (by rw [n125 v 2 1 99 rfl rfl])
end
/-- one more thing -/
def thC (k w r o a : Nat) (j : Nat) : Nat := if j = 0 then k else if j = 1 then w else if j = 2 then r else if j = 3 then o else if j = 4 then a else if j = 5 then w else 0
def sgN (s : SG) (k w r o a : Nat) : SG := (sN s + 1, sM s, up (sT s) (sN s) (thC k w r o a), sB s, sA s)
theorem SOk.add {s : SG} (hO : SOk s) {k w r o a : Nat} (hn : sN s < 8) (hk : k ≤ 5) (hw : 1 ≤ w ∧ w ≤ 99) (hr : 1 ≤ r ∧ r ≤ 9) (ho : o ≤ 99) (ha : a ≤ 9) : SOk (sgN s k w r o a) := by
  obtain ⟨o1, o2, o3, o4⟩ := hO
  refine ⟨hn, o2, fun t ht => ?_, o4⟩
  show up (sT s) (sN s) (thC k w r o a) t 0 ≤ 5 ∧ 1 ≤ up (sT s) (sN s) (thC k w r o a) t 1 ∧ up (sT s) (sN s) (thC k w r o a) t 1 ≤ 99 ∧ 1 ≤ up (sT s) (sN s) (thC k w r o a) t 2 ∧ up (sT s) (sN s) (thC k w r o a) t 2 ≤ 9 ∧ up (sT s) (sN s) (thC k w r o a) t 3 ≤ 99 ∧ up (sT s) (sN s) (thC k w r o a) t 4 ≤ 9 ∧ up (sT s) (sN s) (thC k w r o a) t 5 ≤ 99 ∧ up (sT s) (sN s) (thC k w r o a) t 6 ≤ 7
  by_cases e : t = sN s
  · rw [e, up_at]
    simp only [thC, reduceIte, (show ((1 : Nat) = 0) = False by decide), (show ((2 : Nat) = 0) = False by decide), (show ((3 : Nat) = 0) = False by decide), (show ((4 : Nat) = 0) = False by decide), (show ((5 : Nat) = 0) = False by decide), (show ((6 : Nat) = 0) = False by decide), (show ((2 : Nat) = 1) = False by decide), (show ((3 : Nat) = 1) = False by decide), (show ((4 : Nat) = 1) = False by decide), (show ((5 : Nat) = 1) = False by decide), (show ((6 : Nat) = 1) = False by decide), (show ((3 : Nat) = 2) = False by decide), (show ((4 : Nat) = 2) = False by decide), (show ((5 : Nat) = 2) = False by decide), (show ((6 : Nat) = 2) = False by decide), (show ((4 : Nat) = 3) = False by decide), (show ((5 : Nat) = 3) = False by decide), (show ((6 : Nat) = 3) = False by decide), (show ((5 : Nat) = 4) = False by decide), (show ((6 : Nat) = 4) = False by decide), (show ((6 : Nat) = 5) = False by decide)]
    omega
  · rw [up_ne e]
    have ht' : t < sN s + 1 := ht
    exact o3 t (by omega)
def oThg (A : XA) (k w r o a : Int32) : XA × Int32 := match rgI 0 5 k with
  | none => rfI A 0 (-2)
  | some k => match rgI 1 99 w with
    | none => rfI A 0 (-2)
    | some w => match rgI 1 9 r with
      | none => rfI A 0 (-2)
      | some r => match rgI 0 99 o with
        | none => rfI A 0 (-2)
        | some o => match rgI 0 9 a with
          | none => rfI A 0 (-2)
          | some a => if sN (aS A) = 8 then rfI A 4 (-6) else (wS A (sgN (aS A) k w r o a), nI (sN (aS A)))
section
variable {a : Nat} {ρ β : Nat → Nat} {s : SG} {m : Nat} {h : Hp} {K : Option Value → Hp → Prop}
theorem nT7 {k w r o a' : Nat} : ∀ (g : Nat → Int32), g 0 = nI k → g 1 = nI w → g 2 = nI r → g 3 = nI o → g 4 = nI a' → g 5 = nI w → g 6 = nI 0 → ∀ j, j < 7 → g j = nI (thC k w r o a' j) := fun g g0 g1 g2 g3 g4 g5 g6 j hj => by
  have : j = 0 ∨ j = 1 ∨ j = 2 ∨ j = 3 ∨ j = 4 ∨ j = 5 ∨ j = 6 := by omega
  rcases this with rfl | rfl | rfl | rfl | rfl | rfl | rfl
  · exact g0
  · exact g1
  · exact g2
  · exact g3
  · exact g4
  · exact g5
  · exact g6
/-- what addThing writes -/
def AW (a : Nat) (x j : Nat) : Prop := (x = a ∧ j = 1) ∨ (a + 2 ≤ x ∧ x < a + 10)
theorem c21 (hQ : SQ a ρ β h) (hV : SV a ρ β s h) (hO : SOk s) (hn : sN s < 8) {k w r o a' : Nat} (kk : ∀ h2, FI (AW a) h h2 → SV a ρ β (sgN s k w r o a') h2 → K (some (.int (nI (sN s)))) h2) : AM 21 [.ref a, .int (nI k), .int (nI w), .int (nI r), .int (nI o), .int (nI a')] h K := by
  obtain ⟨s1, s2, s3, s4, s5, s6, s7, s8, s9, s10, -⟩ := id hQ
  obtain ⟨t1, t2, t3, t4, t5⟩ := hQ.th hn
  have c1 : (nI (sN s)).toNatClampNeg = sN s := nIc (by omega)
  have i1 : inb (nI (sN s)) 8 = True := nIb hn (by omega)
  have e8 : (nI (sN s) < 8) = True := eq_true (nI_lt (b := 8) hn (by decide))
  have ne : ∀ v0 v1 v2 v3 v4 v5 v6 : Int32, gI (pI (pI (pI (pI (pI (pI (pI h (ρ (sN s)) 0 v0) (ρ (sN s)) 1 v1) (ρ (sN s)) 2 v2) (ρ (sN s)) 3 v3) (ρ (sN s)) 4 v4) (ρ (sN s)) 5 v5) (ρ (sN s)) 6 v6) a 1 = nI (sN s) := fun v0 v1 v2 v3 v4 v5 v6 => by
    rw [gI_ne (by omega), gI_ne (by omega), gI_ne (by omega), gI_ne (by omega), gI_ne (by omega), gI_ne (by omega), gI_ne (by omega)]
    exact hV.1
  have sb : nI (sN s + 1) - 1 = nI (sN s) := nI_pred _
  simp only [v21_0, v21_1, v21_4, v21_6, v21_9, v21_10, v21_11, v21_12, v21_15, v21_16, v21_19, v21_20, v21_22, v21_24, v21_25, v21_26, v21_27, v21_29, v21_30, v21_31, v21_32, v21_34, v21_35, v21_36, v21_37, v21_39, v21_40, v21_42, v21_43, v21_45, v21_46, v21_48, v21_49, v21_51, v21_52, v21_53, v21_54, v21_56, v21_58, v21_59, v21_60, v21_61, v21_62, v21_65, v21_66, v21_67, v21_70, v21_71, v21_74, v21_75, v21_76, e21, s1, s2, s5, s6, hV.1, e8, reduceIte, vrf_s, c1, i1, t1, t2, t3, gI_pJ, gI_pR, gJ_pI, gJ_pR, gR_pI, gR_pJ, gK_pI, gK_pJ, gK_pR, gN_pI, gN_pJ, gN_pR, gX_pI, gX_pJ, gX_pR, gS_pI, gS_pJ, gS_pR, gK_cpI, gN_cpI, gK_cpJ, gN_cpJ, gR_cpI, gR_cpJ, gJ_cpI, gI_cpJ, ib7_0, ib7_1, ib7_2, ib7_3, ib7_4, ib7_5, ib7_6, ib3_0, ib3_1, ib3_2, ib4_0, ib4_1, ib4_2, ib4_3, tc0, tc1, tc2, tc3, tc4, tc5, tc6, ne, gI_at, nI_1, sb, true_and, true_or, or_true, and_self]
  have q : FI (AW a) h (pI (pI (pI (pI (pI (pI (pI (pI h (ρ (sN s)) 0 (nI k)) (ρ (sN s)) 1 (nI w)) (ρ (sN s)) 2 (nI r)) (ρ (sN s)) 3 (nI o)) (ρ (sN s)) 4 (nI a')) (ρ (sN s)) 5 (nI w)) (ρ (sN s)) 6 0) a 1 (nI (sN s + 1))) := (((((((FI.rf.pI (Or.inr ⟨by omega, by omega⟩)).pI (Or.inr ⟨by omega, by omega⟩)).pI (Or.inr ⟨by omega, by omega⟩)).pI (Or.inr ⟨by omega, by omega⟩)).pI (Or.inr ⟨by omega, by omega⟩)).pI (Or.inr ⟨by omega, by omega⟩)).pI (Or.inr ⟨by omega, by omega⟩)).pI (Or.inl ⟨rfl, rfl⟩)
  obtain ⟨p1, p2, p3, p4, p5⟩ := hV
  have hm := hO.2.1
  refine kk _ q ⟨gI_at _ _ _ _, ?_, fun t ht j hj => ?_, fun b hb j hj => ?_, fun j hj => ?_⟩
  · exact (q.i (fun z => by unfold AW at z; omega)).trans p2
  · have ht' : t < sN s + 1 := ht
    show _ = nI (up (sT s) (sN s) (thC k w r o a') t j)
    by_cases e : t = sN s
    · rw [e, up_at]
      refine nT7 (fun j => gI (pI (pI (pI (pI (pI (pI (pI (pI h (ρ (sN s)) 0 (nI k)) (ρ (sN s)) 1 (nI w)) (ρ (sN s)) 2 (nI r)) (ρ (sN s)) 3 (nI o)) (ρ (sN s)) 4 (nI a')) (ρ (sN s)) 5 (nI w)) (ρ (sN s)) 6 0) a 1 (nI (sN s + 1))) (ρ (sN s)) j) ?_ ?_ ?_ ?_ ?_ ?_ ?_ j hj
      · rw [gI_ne (by omega), gI_ne (by omega), gI_ne (by omega), gI_ne (by omega), gI_ne (by omega), gI_ne (by omega), gI_ne (by omega), gI_at]
      · rw [gI_ne (by omega), gI_ne (by omega), gI_ne (by omega), gI_ne (by omega), gI_ne (by omega), gI_ne (by omega), gI_at]
      · rw [gI_ne (by omega), gI_ne (by omega), gI_ne (by omega), gI_ne (by omega), gI_ne (by omega), gI_at]
      · rw [gI_ne (by omega), gI_ne (by omega), gI_ne (by omega), gI_ne (by omega), gI_at]
      · rw [gI_ne (by omega), gI_ne (by omega), gI_ne (by omega), gI_at]
      · rw [gI_ne (by omega), gI_ne (by omega), gI_at]
      · rw [gI_ne (by omega), gI_at]
        rfl
    · rw [up_ne e]
      obtain ⟨-, -, -, x4, x5⟩ := hQ.th (show t < 8 by omega)
      have hne : ρ t ≠ ρ (sN s) := fun z => e (hQ.2.2.2.2.2.2.2.2.2.2.2.2.1 t (sN s) (by omega) (by omega) z)
      rw [gI_ne (by omega), gI_ne (by omega), gI_ne (by omega), gI_ne (by omega), gI_ne (by omega), gI_ne (by omega), gI_ne (by omega), gI_ne (by omega)]
      exact p3 t (by omega) j hj
  · have hb' : b < sM s := hb
    obtain ⟨-, -, -, x4, x5⟩ := hQ.by (show b < 24 by omega)
    exact (q.i (fun z => by unfold AW at z; omega)).trans (p4 b hb j hj)
  · exact (q.i (fun z => by unfold AW at z; omega)).trans (p5 j hj)
def AX (m : Nat) (x j : Nat) : Prop := (x = m ∧ j = 9) ∨ (m + 18 ≤ x ∧ x < m + 26)
theorem c148 (hM : MSh m h) (hP : MP m s h) (hO : SOk s) (hn : sN s < 8) {k w r o a' : Nat} (kk : ∀ h2, Fr (AX m) h h2 → MP m (sgN s k w r o a') h2 → K none h2) : AM 148 [.ref m, .int (nI k), .int (nI w), .int (nI r), .int (nI o), .int (nI a')] h K := by
  obtain ⟨t1, t2, t3⟩ := hM.th hn
  have c1 : (nI (sN s)).toNatClampNeg = sN s := nIc (by omega)
  have i1 : inb (nI (sN s)) 8 = True := nIb hn (by omega)
  simp only [v148_0, v148_1, v148_4, v148_5, v148_6, v148_9, v148_10, v148_11, v148_12, v148_15, v148_16, v148_18, v148_20, v148_21, v148_22, v148_23, v148_25, v148_26, v148_27, v148_28, v148_30, v148_31, v148_32, v148_33, v148_35, v148_36, v148_38, v148_39, v148_41, v148_42, v148_44, v148_45, v148_47, v148_48, v148_49, v148_50, v148_52, v148_54, v148_55, v148_56, e148, hM.f0, hM.f1, hM.f2, hM.f3, hM.f4, hM.f5, hM.f6, hM.f8, hM.f10, hM.f12, hM.f13, hM.f25, hM.f27, hM.f28, hM.f36, hM.f37, hM.f38, hM.f40, hM.k0, hM.k1, hM.k2, hM.k3, hM.k4, hM.k13, hM.k14, hM.k15, hM.k16, hM.k17, hM.k26, hM.k51, hM.k52, hM.k53, hM.k54, hM.k55, hM.k56, hM.k57, hM.k58, hM.n1, hM.n2, hM.n3, hM.n4, hM.n13, hM.n14, hM.n15, hM.n16, hM.n17, hM.n26, hM.n51, hM.n52, hM.n53, hM.n54, hM.n55, hM.n56, hM.n57, hM.n58, vrf_s, true_or, or_true, true_and, and_true, and_self, not_false_eq_true, hP.1, c1, i1, t1, t2, t3, gI_pJ, gI_pR, gJ_pI, gJ_pR, gR_pI, gR_pJ, gK_pI, gK_pJ, gK_pR, gN_pI, gN_pJ, gN_pR, gX_pI, gX_pJ, gX_pR, gS_pI, gS_pJ, gS_pR, gK_cpI, gN_cpI, gK_cpJ, gN_cpJ, gR_cpI, gR_cpJ, gJ_cpI, gI_cpJ, ib7_0, ib7_1, ib7_2, ib7_3, ib7_4, ib7_5, ib7_6, ib3_0, ib3_1, ib3_2, ib4_0, ib4_1, ib4_2, ib4_3, tc0, tc1, tc2, tc3, tc4, tc5, tc6, nI_1]
  have q : Fr (AX m) h (pI (pI (pI (pI (pI (pI (pI (pI h m 9 (nI (sN s + 1))) (m + (18 + sN s)) 0 (nI k)) (m + (18 + sN s)) 1 (nI w)) (m + (18 + sN s)) 2 (nI r)) (m + (18 + sN s)) 3 (nI o)) (m + (18 + sN s)) 4 (nI a')) (m + (18 + sN s)) 5 (nI w)) (m + (18 + sN s)) 6 0) := (((((((Fr.rf.pI (Or.inl ⟨rfl, rfl⟩)).pI (Or.inr ⟨by omega, by omega⟩)).pI (Or.inr ⟨by omega, by omega⟩)).pI (Or.inr ⟨by omega, by omega⟩)).pI (Or.inr ⟨by omega, by omega⟩)).pI (Or.inr ⟨by omega, by omega⟩)).pI (Or.inr ⟨by omega, by omega⟩)).pI (Or.inr ⟨by omega, by omega⟩)
  obtain ⟨p1, p2, p3, p4, p5⟩ := hP
  have hm := hO.2.1
  refine kk _ q ⟨?_, ?_, fun t ht j hj => ?_, fun b hb j hj => ?_, fun j hj => ?_⟩
  · rw [gI_ne (by omega), gI_ne (by omega), gI_ne (by omega), gI_ne (by omega), gI_ne (by omega), gI_ne (by omega), gI_ne (by omega), gI_at]
    rfl
  · exact (q.i (fun z => by unfold AX at z; omega)).trans p2
  · have ht' : t < sN s + 1 := ht
    show _ = nI (up (sT s) (sN s) (thC k w r o a') t j)
    by_cases e : t = sN s
    · rw [e, up_at]
      refine nT7 (fun j => gI (pI (pI (pI (pI (pI (pI (pI (pI h m 9 (nI (sN s + 1))) (m + (18 + sN s)) 0 (nI k)) (m + (18 + sN s)) 1 (nI w)) (m + (18 + sN s)) 2 (nI r)) (m + (18 + sN s)) 3 (nI o)) (m + (18 + sN s)) 4 (nI a')) (m + (18 + sN s)) 5 (nI w)) (m + (18 + sN s)) 6 0) (m + (18 + sN s)) j) ?_ ?_ ?_ ?_ ?_ ?_ ?_ j hj
      · rw [gI_ne (by omega), gI_ne (by omega), gI_ne (by omega), gI_ne (by omega), gI_ne (by omega), gI_ne (by omega), gI_at]
      · rw [gI_ne (by omega), gI_ne (by omega), gI_ne (by omega), gI_ne (by omega), gI_ne (by omega), gI_at]
      · rw [gI_ne (by omega), gI_ne (by omega), gI_ne (by omega), gI_ne (by omega), gI_at]
      · rw [gI_ne (by omega), gI_ne (by omega), gI_ne (by omega), gI_at]
      · rw [gI_ne (by omega), gI_ne (by omega), gI_at]
      · rw [gI_ne (by omega), gI_at]
      · rw [gI_at]
        rfl
    · rw [up_ne e, gI_ne (by omega), gI_ne (by omega), gI_ne (by omega), gI_ne (by omega), gI_ne (by omega), gI_ne (by omega), gI_ne (by omega), gI_ne (by omega)]
      exact p3 t (by omega) j hj
  · have hb' : b < sM s := hb
    exact (q.i (fun z => by unfold AX at z; omega)).trans (p4 b hb j hj)
  · exact (q.i (fun z => by unfold AX at z; omega)).trans (p5 j hj)
end
section
variable {b m : Nat} {u : LU} {A : XA} {h h1 : Hp} {K : Option Value → Hp → Prop}
theorem SQ.fi' {a : Nat} {ρ β : Nat → Nat} {F : Nat → Nat → Prop} (hQ : SQ a ρ β h) (w : FI F h h1) : SQ a ρ β h1 := hQ.fi w
theorem k61 (hC : CL b A h) (hW : WF A) (k w r o a : Int32) (kk : ∀ h2, Fr (CW b) h h2 → CL b (oThg A k w r o a).1 h2 → K (some (.int (oThg A k w r o a).2)) h2) : AM 61 [.ref b, .int k, .int w, .int r, .int o, .int a] h K := by
  obtain ⟨⟨cn, kb, f0, f1, f3, f4, f5, f6⟩, hST, hKP, hTR, hTA, ⟨s1, s2, s3⟩, hRF⟩ := id hC
  unfold oThg at kk
  cases hk : rgI 0 5 k with
  | none =>
    rw [hk] at kk
    simp only [v61_0, v61_1, v61_2, v61_5, v61_8, v61_9, v61_10, v61_13, v61_16, v61_17, v61_18, v61_21, v61_24, v61_25, v61_27, v61_30, v61_33, v61_34, v61_36, v61_39, v61_42, v61_43, v61_45, v61_48, v61_49, v61_50, v61_53, v61_56, v61_58, v61_61, v61_62, v61_64, v61_67, v61_68, v61_69, v61_72, v61_73, v61_74, v61_75, v61_77, v61_79, v61_82, e61, kb, f0, f1, f3, f4, f5, f6, vrf_s, true_and, true_or, or_true, and_self, not_false_eq_true, pu_s, pu_n, z2_e0, z2_n0, z2_t, z2_f, c124_0 cn, hk, Option.isSome_none, reduceIte]
    exact k108 (w := 0) hC hW (by decide) (by decide) (fun h2 q2 hC2 => by simp only [pu_s, v61_48]; exact kk h2 q2 hC2)
  | some k' =>
    rw [hk] at kk
    cases hw : rgI 1 99 w with
    | none =>
      rw [hw] at kk
      simp only [v61_0, v61_1, v61_2, v61_5, v61_8, v61_9, v61_10, v61_13, v61_16, v61_17, v61_18, v61_21, v61_24, v61_25, v61_27, v61_30, v61_33, v61_34, v61_36, v61_39, v61_42, v61_43, v61_45, v61_48, v61_49, v61_50, v61_53, v61_56, v61_58, v61_61, v61_62, v61_64, v61_67, v61_68, v61_69, v61_72, v61_73, v61_74, v61_75, v61_77, v61_79, v61_82, e61, kb, f0, f1, f3, f4, f5, f6, vrf_s, true_and, true_or, or_true, and_self, not_false_eq_true, pu_s, pu_n, z2_e0, z2_n0, z2_t, z2_f, c124_0 cn, c124_1 cn, hk, hw, Option.isSome_none, Option.isSome_some, i10, reduceIte]
      exact k108 (w := 0) hC hW (by decide) (by decide) (fun h2 q2 hC2 => by simp only [pu_s, v61_48]; exact kk h2 q2 hC2)
    | some w' =>
      rw [hw] at kk
      cases hr : rgI 1 9 r with
      | none =>
        rw [hr] at kk
        simp only [v61_0, v61_1, v61_2, v61_5, v61_8, v61_9, v61_10, v61_13, v61_16, v61_17, v61_18, v61_21, v61_24, v61_25, v61_27, v61_30, v61_33, v61_34, v61_36, v61_39, v61_42, v61_43, v61_45, v61_48, v61_49, v61_50, v61_53, v61_56, v61_58, v61_61, v61_62, v61_64, v61_67, v61_68, v61_69, v61_72, v61_73, v61_74, v61_75, v61_77, v61_79, v61_82, e61, kb, f0, f1, f3, f4, f5, f6, vrf_s, true_and, true_or, or_true, and_self, not_false_eq_true, pu_s, pu_n, z2_e0, z2_n0, z2_t, z2_f, c124_0 cn, c124_1 cn, c124_2 cn, hk, hw, hr, Option.isSome_none, Option.isSome_some, i10, reduceIte]
        exact k108 (w := 0) hC hW (by decide) (by decide) (fun h2 q2 hC2 => by simp only [pu_s, v61_48]; exact kk h2 q2 hC2)
      | some r' =>
        rw [hr] at kk
        cases ho : rgI 0 99 o with
        | none =>
          rw [ho] at kk
          simp only [v61_0, v61_1, v61_2, v61_5, v61_8, v61_9, v61_10, v61_13, v61_16, v61_17, v61_18, v61_21, v61_24, v61_25, v61_27, v61_30, v61_33, v61_34, v61_36, v61_39, v61_42, v61_43, v61_45, v61_48, v61_49, v61_50, v61_53, v61_56, v61_58, v61_61, v61_62, v61_64, v61_67, v61_68, v61_69, v61_72, v61_73, v61_74, v61_75, v61_77, v61_79, v61_82, e61, kb, f0, f1, f3, f4, f5, f6, vrf_s, true_and, true_or, or_true, and_self, not_false_eq_true, pu_s, pu_n, z2_e0, z2_n0, z2_t, z2_f, c124_0 cn, c124_1 cn, c124_2 cn, c124_3 cn, hk, hw, hr, ho, Option.isSome_none, Option.isSome_some, i10, reduceIte]
          exact k108 (w := 0) hC hW (by decide) (by decide) (fun h2 q2 hC2 => by simp only [pu_s, v61_48]; exact kk h2 q2 hC2)
        | some o' =>
          rw [ho] at kk
          cases ha : rgI 0 9 a with
          | none =>
            rw [ha] at kk
            simp only [v61_0, v61_1, v61_2, v61_5, v61_8, v61_9, v61_10, v61_13, v61_16, v61_17, v61_18, v61_21, v61_24, v61_25, v61_27, v61_30, v61_33, v61_34, v61_36, v61_39, v61_42, v61_43, v61_45, v61_48, v61_49, v61_50, v61_53, v61_56, v61_58, v61_61, v61_62, v61_64, v61_67, v61_68, v61_69, v61_72, v61_73, v61_74, v61_75, v61_77, v61_79, v61_82, e61, kb, f0, f1, f3, f4, f5, f6, vrf_s, true_and, true_or, or_true, and_self, not_false_eq_true, pu_s, pu_n, z2_e0, z2_n0, z2_t, z2_f, c124_0 cn, c124_1 cn, c124_2 cn, c124_3 cn, c124_4 cn, hk, hw, hr, ho, ha, Option.isSome_none, Option.isSome_some, i10, reduceIte]
            exact k108 (w := 0) hC hW (by decide) (by decide) (fun h2 q2 hC2 => by simp only [pu_s, v61_48]; exact kk h2 q2 hC2)
          | some a' =>
            rw [ha] at kk
            dsimp only at kk
            obtain ⟨ρ, β, hQ, hV, hO, q5, q6, q7⟩ := id hST
            have sk := hQ.1
            have hn := hO.1
            have e8 : (nI (sN (aS A)) < 8) = (sN (aS A) < 8) := nltN (c := 8) (by omega) (by decide)
            by_cases g : sN (aS A) = 8
            · rw [if_pos g] at kk
              have g2 : (sN (aS A) < 8) = False := eq_false (by omega)
              simp only [v61_0, v61_1, v61_2, v61_5, v61_8, v61_9, v61_10, v61_13, v61_16, v61_17, v61_18, v61_21, v61_24, v61_25, v61_27, v61_30, v61_33, v61_34, v61_36, v61_39, v61_42, v61_43, v61_45, v61_48, v61_49, v61_50, v61_53, v61_56, v61_58, v61_61, v61_62, v61_64, v61_67, v61_68, v61_69, v61_72, v61_73, v61_74, v61_75, v61_77, v61_79, v61_82, e61, kb, f0, f1, f3, f4, f5, f6, vrf_s, true_and, true_or, or_true, and_self, not_false_eq_true, pu_s, pu_n, z2_e0, z2_n0, z2_t, z2_f, c124_0 cn, c124_1 cn, c124_2 cn, c124_3 cn, c124_4 cn, hk, hw, hr, ho, ha, Option.isSome_some, i10, reduceIte, sk, hV.1, e8, g2]
              exact k108 (w := 4) hC hW (by decide) (by decide) (fun h2 q2 hC2 => by simp only [pu_s, v61_67]; exact kk h2 q2 hC2)
            · rw [if_neg g] at kk
              have g2 : (sN (aS A) < 8) = True := eq_true (by omega)
              simp only [v61_0, v61_1, v61_2, v61_5, v61_8, v61_9, v61_10, v61_13, v61_16, v61_17, v61_18, v61_21, v61_24, v61_25, v61_27, v61_30, v61_33, v61_34, v61_36, v61_39, v61_42, v61_43, v61_45, v61_48, v61_49, v61_50, v61_53, v61_56, v61_58, v61_61, v61_62, v61_64, v61_67, v61_68, v61_69, v61_72, v61_73, v61_74, v61_75, v61_77, v61_79, v61_82, e61, kb, f0, f1, f3, f4, f5, f6, vrf_s, true_and, true_or, or_true, and_self, not_false_eq_true, pu_s, pu_n, z2_e0, z2_n0, z2_t, z2_f, c124_0 cn, c124_1 cn, c124_2 cn, c124_3 cn, c124_4 cn, hk, hw, hr, ho, ha, Option.isSome_some, i10, reduceIte, sk, hV.1, e8, g2]
              obtain ⟨rfl, -, -⟩ := rgI_s (by decide) (by decide) hk
              obtain ⟨rfl, -, -⟩ := rgI_s (by decide) (by decide) hw
              obtain ⟨rfl, -, -⟩ := rgI_s (by decide) (by decide) hr
              obtain ⟨rfl, -, -⟩ := rgI_s (by decide) (by decide) ho
              obtain ⟨rfl, -, -⟩ := rgI_s (by decide) (by decide) ha
              obtain ⟨-, k1, k2⟩ := rgI_s (by decide) (by decide) hk
              obtain ⟨-, w1, w2⟩ := rgI_s (by decide) (by decide) hw
              obtain ⟨-, r1, r2⟩ := rgI_s (by decide) (by decide) hr
              obtain ⟨-, o1, o2⟩ := rgI_s (by decide) (by decide) ho
              obtain ⟨-, a1, a2⟩ := rgI_s (by decide) (by decide) ha
              refine c21 hQ hV hO (by omega) (fun h2 q2 hV2 => ?_)
              simp only [pu_s, v61_82]
              have hO2 := hO.add (by omega) k2 ⟨w1, w2⟩ ⟨r1, r2⟩ o2 a2
              have q3 : Fr (CW b) h h2 := q2.1.mo (fun x j z => by unfold AW at z; unfold CW; omega)
              have hC2 := hC.us (s := sgN (aS A) k' w' r' o' a') (q := aQ A) hW q2.1 (fun x j z => by unfold AW at z; omega) ⟨ρ, β, hQ.fi q2, hV2, hO2, (q2.i (fun z => by unfold AW at z; omega)).trans q5, (q2.i (fun z => by unfold AW at z; omega)).trans q6, (q2.i (fun z => by unfold AW at z; omega)).trans q7⟩
              exact kk h2 q3 hC2
theorem k149 (hR : MR m u A h) (hW : WF A) (k w r o a : Int32) (kk : ∀ (h2 : Hp) (u2 : LU), MG m h h2 → MR m u2 (oThg A k w r o a).1 h2 → K (some (.int (oThg A k w r o a).2)) h2) : AM 149 [.ref m, .int k, .int w, .int r, .int o, .int a] h K := by
  obtain ⟨r0, hM, hpp, hP, hQ, hS, hT, hF, hL⟩ := id hR
  unfold oThg at kk
  replace kk := fun h2 => kk h2 u
  cases hk : rgI 0 5 k with
  | none =>
    rw [hk] at kk
    simp only [v149_0, v149_1, v149_2, v149_3, v149_6, v149_9, v149_12, v149_13, v149_14, v149_15, v149_18, v149_21, v149_24, v149_25, v149_26, v149_27, v149_30, v149_33, v149_36, v149_37, v149_40, v149_41, v149_43, v149_45, v149_48, v149_50, v149_51, v149_52, v149_55, v149_58, v149_61, v149_63, v149_64, v149_65, v149_68, v149_71, v149_74, v149_75, v149_77, v149_80, v149_81, v149_82, v149_85, v149_87, v149_90, v149_91, v149_93, v149_96, v149_97, v149_98, v149_99, v149_100, v149_101, v149_103, v149_105, v149_108, v149_109, v149_112, v149_113, v149_114, e149, hM.f0, hM.f1, hM.f2, hM.f3, hM.f4, hM.f5, hM.f6, hM.f8, hM.f10, hM.f12, hM.f13, hM.f25, hM.f27, hM.f28, hM.f36, hM.f37, hM.f38, hM.f40, hM.k0, hM.k1, hM.k2, hM.k3, hM.k4, hM.k13, hM.k14, hM.k15, hM.k16, hM.k17, hM.k26, hM.k51, hM.k52, hM.k53, hM.k54, hM.k55, hM.k56, hM.k57, hM.k58, hM.n1, hM.n2, hM.n3, hM.n4, hM.n13, hM.n14, hM.n15, hM.n16, hM.n17, hM.n26, hM.n51, hM.n52, hM.n53, hM.n54, hM.n55, hM.n56, hM.n57, hM.n58, vrf_s, true_or, or_true, true_and, and_true, and_self, not_false_eq_true, pu_s, pu_n, z2_e0, z2_n0, z2_t, z2_f, c135, rj_0_7, rj_0_4, rj_0_40, rj_0_5, rj_1_99, rj_1_9, rj_0_99, rj_0_9, rj_0_6, rj_0_3, rj_0_255, rj_1_24, rj_3_39, rj_0_1, rj_0_8, rj_0_2, rj_1_30, rj_0_14, rj_12_16, hk, Option.isSome_none, reduceIte]
    exact k134 (w := 0) hR hW (by decide) (by decide) (fun h2 q2 hR2 => by simp only [pu_s, v149_80]; exact kk h2 (MG.of q2 (fun a j z => by omega)) hR2)
  | some k' =>
    rw [hk] at kk
    cases hw : rgI 1 99 w with
    | none =>
      rw [hw] at kk
      simp only [v149_0, v149_1, v149_2, v149_3, v149_6, v149_9, v149_12, v149_13, v149_14, v149_15, v149_18, v149_21, v149_24, v149_25, v149_26, v149_27, v149_30, v149_33, v149_36, v149_37, v149_40, v149_41, v149_43, v149_45, v149_48, v149_50, v149_51, v149_52, v149_55, v149_58, v149_61, v149_63, v149_64, v149_65, v149_68, v149_71, v149_74, v149_75, v149_77, v149_80, v149_81, v149_82, v149_85, v149_87, v149_90, v149_91, v149_93, v149_96, v149_97, v149_98, v149_99, v149_100, v149_101, v149_103, v149_105, v149_108, v149_109, v149_112, v149_113, v149_114, e149, hM.f0, hM.f1, hM.f2, hM.f3, hM.f4, hM.f5, hM.f6, hM.f8, hM.f10, hM.f12, hM.f13, hM.f25, hM.f27, hM.f28, hM.f36, hM.f37, hM.f38, hM.f40, hM.k0, hM.k1, hM.k2, hM.k3, hM.k4, hM.k13, hM.k14, hM.k15, hM.k16, hM.k17, hM.k26, hM.k51, hM.k52, hM.k53, hM.k54, hM.k55, hM.k56, hM.k57, hM.k58, hM.n1, hM.n2, hM.n3, hM.n4, hM.n13, hM.n14, hM.n15, hM.n16, hM.n17, hM.n26, hM.n51, hM.n52, hM.n53, hM.n54, hM.n55, hM.n56, hM.n57, hM.n58, vrf_s, true_or, or_true, true_and, and_true, and_self, not_false_eq_true, pu_s, pu_n, z2_e0, z2_n0, z2_t, z2_f, c135, rj_0_7, rj_0_4, rj_0_40, rj_0_5, rj_1_99, rj_1_9, rj_0_99, rj_0_9, rj_0_6, rj_0_3, rj_0_255, rj_1_24, rj_3_39, rj_0_1, rj_0_8, rj_0_2, rj_1_30, rj_0_14, rj_12_16, hk, hw, Option.isSome_none, Option.isSome_some, i10, reduceIte]
      exact k134 (w := 0) hR hW (by decide) (by decide) (fun h2 q2 hR2 => by simp only [pu_s, v149_80]; exact kk h2 (MG.of q2 (fun a j z => by omega)) hR2)
    | some w' =>
      rw [hw] at kk
      cases hr : rgI 1 9 r with
      | none =>
        rw [hr] at kk
        simp only [v149_0, v149_1, v149_2, v149_3, v149_6, v149_9, v149_12, v149_13, v149_14, v149_15, v149_18, v149_21, v149_24, v149_25, v149_26, v149_27, v149_30, v149_33, v149_36, v149_37, v149_40, v149_41, v149_43, v149_45, v149_48, v149_50, v149_51, v149_52, v149_55, v149_58, v149_61, v149_63, v149_64, v149_65, v149_68, v149_71, v149_74, v149_75, v149_77, v149_80, v149_81, v149_82, v149_85, v149_87, v149_90, v149_91, v149_93, v149_96, v149_97, v149_98, v149_99, v149_100, v149_101, v149_103, v149_105, v149_108, v149_109, v149_112, v149_113, v149_114, e149, hM.f0, hM.f1, hM.f2, hM.f3, hM.f4, hM.f5, hM.f6, hM.f8, hM.f10, hM.f12, hM.f13, hM.f25, hM.f27, hM.f28, hM.f36, hM.f37, hM.f38, hM.f40, hM.k0, hM.k1, hM.k2, hM.k3, hM.k4, hM.k13, hM.k14, hM.k15, hM.k16, hM.k17, hM.k26, hM.k51, hM.k52, hM.k53, hM.k54, hM.k55, hM.k56, hM.k57, hM.k58, hM.n1, hM.n2, hM.n3, hM.n4, hM.n13, hM.n14, hM.n15, hM.n16, hM.n17, hM.n26, hM.n51, hM.n52, hM.n53, hM.n54, hM.n55, hM.n56, hM.n57, hM.n58, vrf_s, true_or, or_true, true_and, and_true, and_self, not_false_eq_true, pu_s, pu_n, z2_e0, z2_n0, z2_t, z2_f, c135, rj_0_7, rj_0_4, rj_0_40, rj_0_5, rj_1_99, rj_1_9, rj_0_99, rj_0_9, rj_0_6, rj_0_3, rj_0_255, rj_1_24, rj_3_39, rj_0_1, rj_0_8, rj_0_2, rj_1_30, rj_0_14, rj_12_16, hk, hw, hr, Option.isSome_none, Option.isSome_some, i10, reduceIte]
        exact k134 (w := 0) hR hW (by decide) (by decide) (fun h2 q2 hR2 => by simp only [pu_s, v149_80]; exact kk h2 (MG.of q2 (fun a j z => by omega)) hR2)
      | some r' =>
        rw [hr] at kk
        cases ho : rgI 0 99 o with
        | none =>
          rw [ho] at kk
          simp only [v149_0, v149_1, v149_2, v149_3, v149_6, v149_9, v149_12, v149_13, v149_14, v149_15, v149_18, v149_21, v149_24, v149_25, v149_26, v149_27, v149_30, v149_33, v149_36, v149_37, v149_40, v149_41, v149_43, v149_45, v149_48, v149_50, v149_51, v149_52, v149_55, v149_58, v149_61, v149_63, v149_64, v149_65, v149_68, v149_71, v149_74, v149_75, v149_77, v149_80, v149_81, v149_82, v149_85, v149_87, v149_90, v149_91, v149_93, v149_96, v149_97, v149_98, v149_99, v149_100, v149_101, v149_103, v149_105, v149_108, v149_109, v149_112, v149_113, v149_114, e149, hM.f0, hM.f1, hM.f2, hM.f3, hM.f4, hM.f5, hM.f6, hM.f8, hM.f10, hM.f12, hM.f13, hM.f25, hM.f27, hM.f28, hM.f36, hM.f37, hM.f38, hM.f40, hM.k0, hM.k1, hM.k2, hM.k3, hM.k4, hM.k13, hM.k14, hM.k15, hM.k16, hM.k17, hM.k26, hM.k51, hM.k52, hM.k53, hM.k54, hM.k55, hM.k56, hM.k57, hM.k58, hM.n1, hM.n2, hM.n3, hM.n4, hM.n13, hM.n14, hM.n15, hM.n16, hM.n17, hM.n26, hM.n51, hM.n52, hM.n53, hM.n54, hM.n55, hM.n56, hM.n57, hM.n58, vrf_s, true_or, or_true, true_and, and_true, and_self, not_false_eq_true, pu_s, pu_n, z2_e0, z2_n0, z2_t, z2_f, c135, rj_0_7, rj_0_4, rj_0_40, rj_0_5, rj_1_99, rj_1_9, rj_0_99, rj_0_9, rj_0_6, rj_0_3, rj_0_255, rj_1_24, rj_3_39, rj_0_1, rj_0_8, rj_0_2, rj_1_30, rj_0_14, rj_12_16, hk, hw, hr, ho, Option.isSome_none, Option.isSome_some, i10, reduceIte]
          exact k134 (w := 0) hR hW (by decide) (by decide) (fun h2 q2 hR2 => by simp only [pu_s, v149_80]; exact kk h2 (MG.of q2 (fun a j z => by omega)) hR2)
        | some o' =>
          rw [ho] at kk
          cases ha : rgI 0 9 a with
          | none =>
            rw [ha] at kk
            simp only [v149_0, v149_1, v149_2, v149_3, v149_6, v149_9, v149_12, v149_13, v149_14, v149_15, v149_18, v149_21, v149_24, v149_25, v149_26, v149_27, v149_30, v149_33, v149_36, v149_37, v149_40, v149_41, v149_43, v149_45, v149_48, v149_50, v149_51, v149_52, v149_55, v149_58, v149_61, v149_63, v149_64, v149_65, v149_68, v149_71, v149_74, v149_75, v149_77, v149_80, v149_81, v149_82, v149_85, v149_87, v149_90, v149_91, v149_93, v149_96, v149_97, v149_98, v149_99, v149_100, v149_101, v149_103, v149_105, v149_108, v149_109, v149_112, v149_113, v149_114, e149, hM.f0, hM.f1, hM.f2, hM.f3, hM.f4, hM.f5, hM.f6, hM.f8, hM.f10, hM.f12, hM.f13, hM.f25, hM.f27, hM.f28, hM.f36, hM.f37, hM.f38, hM.f40, hM.k0, hM.k1, hM.k2, hM.k3, hM.k4, hM.k13, hM.k14, hM.k15, hM.k16, hM.k17, hM.k26, hM.k51, hM.k52, hM.k53, hM.k54, hM.k55, hM.k56, hM.k57, hM.k58, hM.n1, hM.n2, hM.n3, hM.n4, hM.n13, hM.n14, hM.n15, hM.n16, hM.n17, hM.n26, hM.n51, hM.n52, hM.n53, hM.n54, hM.n55, hM.n56, hM.n57, hM.n58, vrf_s, true_or, or_true, true_and, and_true, and_self, not_false_eq_true, pu_s, pu_n, z2_e0, z2_n0, z2_t, z2_f, c135, rj_0_7, rj_0_4, rj_0_40, rj_0_5, rj_1_99, rj_1_9, rj_0_99, rj_0_9, rj_0_6, rj_0_3, rj_0_255, rj_1_24, rj_3_39, rj_0_1, rj_0_8, rj_0_2, rj_1_30, rj_0_14, rj_12_16, hk, hw, hr, ho, ha, Option.isSome_none, Option.isSome_some, i10, reduceIte]
            exact k134 (w := 0) hR hW (by decide) (by decide) (fun h2 q2 hR2 => by simp only [pu_s, v149_80]; exact kk h2 (MG.of q2 (fun a j z => by omega)) hR2)
          | some a' =>
            rw [ha] at kk
            dsimp only at kk
            have hO := hW.1
            have hn := hO.1
            have e8 : (nI (sN (aS A)) = 8) = (sN (aS A) = 8) := neqN (c := 8) (by omega) (by decide)
            by_cases g : sN (aS A) = 8
            · rw [if_pos g] at kk
              simp only [v149_0, v149_1, v149_2, v149_3, v149_6, v149_9, v149_12, v149_13, v149_14, v149_15, v149_18, v149_21, v149_24, v149_25, v149_26, v149_27, v149_30, v149_33, v149_36, v149_37, v149_40, v149_41, v149_43, v149_45, v149_48, v149_50, v149_51, v149_52, v149_55, v149_58, v149_61, v149_63, v149_64, v149_65, v149_68, v149_71, v149_74, v149_75, v149_77, v149_80, v149_81, v149_82, v149_85, v149_87, v149_90, v149_91, v149_93, v149_96, v149_97, v149_98, v149_99, v149_100, v149_101, v149_103, v149_105, v149_108, v149_109, v149_112, v149_113, v149_114, e149, hM.f0, hM.f1, hM.f2, hM.f3, hM.f4, hM.f5, hM.f6, hM.f8, hM.f10, hM.f12, hM.f13, hM.f25, hM.f27, hM.f28, hM.f36, hM.f37, hM.f38, hM.f40, hM.k0, hM.k1, hM.k2, hM.k3, hM.k4, hM.k13, hM.k14, hM.k15, hM.k16, hM.k17, hM.k26, hM.k51, hM.k52, hM.k53, hM.k54, hM.k55, hM.k56, hM.k57, hM.k58, hM.n1, hM.n2, hM.n3, hM.n4, hM.n13, hM.n14, hM.n15, hM.n16, hM.n17, hM.n26, hM.n51, hM.n52, hM.n53, hM.n54, hM.n55, hM.n56, hM.n57, hM.n58, vrf_s, true_or, or_true, true_and, and_true, and_self, not_false_eq_true, pu_s, pu_n, z2_e0, z2_n0, z2_t, z2_f, c135, rj_0_7, rj_0_4, rj_0_40, rj_0_5, rj_1_99, rj_1_9, rj_0_99, rj_0_9, rj_0_6, rj_0_3, rj_0_255, rj_1_24, rj_3_39, rj_0_1, rj_0_8, rj_0_2, rj_1_30, rj_0_14, rj_12_16, hk, hw, hr, ho, ha, Option.isSome_some, i10, reduceIte, hP.1, e8, g, not_true_eq_false]
              exact k134 (w := 4) hR hW (by decide) (by decide) (fun h2 q2 hR2 => by simp only [pu_s, v149_96]; exact kk h2 (MG.of q2 (fun a j z => by omega)) hR2)
            · rw [if_neg g] at kk
              simp only [v149_0, v149_1, v149_2, v149_3, v149_6, v149_9, v149_12, v149_13, v149_14, v149_15, v149_18, v149_21, v149_24, v149_25, v149_26, v149_27, v149_30, v149_33, v149_36, v149_37, v149_40, v149_41, v149_43, v149_45, v149_48, v149_50, v149_51, v149_52, v149_55, v149_58, v149_61, v149_63, v149_64, v149_65, v149_68, v149_71, v149_74, v149_75, v149_77, v149_80, v149_81, v149_82, v149_85, v149_87, v149_90, v149_91, v149_93, v149_96, v149_97, v149_98, v149_99, v149_100, v149_101, v149_103, v149_105, v149_108, v149_109, v149_112, v149_113, v149_114, e149, hM.f0, hM.f1, hM.f2, hM.f3, hM.f4, hM.f5, hM.f6, hM.f8, hM.f10, hM.f12, hM.f13, hM.f25, hM.f27, hM.f28, hM.f36, hM.f37, hM.f38, hM.f40, hM.k0, hM.k1, hM.k2, hM.k3, hM.k4, hM.k13, hM.k14, hM.k15, hM.k16, hM.k17, hM.k26, hM.k51, hM.k52, hM.k53, hM.k54, hM.k55, hM.k56, hM.k57, hM.k58, hM.n1, hM.n2, hM.n3, hM.n4, hM.n13, hM.n14, hM.n15, hM.n16, hM.n17, hM.n26, hM.n51, hM.n52, hM.n53, hM.n54, hM.n55, hM.n56, hM.n57, hM.n58, vrf_s, true_or, or_true, true_and, and_true, and_self, not_false_eq_true, pu_s, pu_n, z2_e0, z2_n0, z2_t, z2_f, c135, rj_0_7, rj_0_4, rj_0_40, rj_0_5, rj_1_99, rj_1_9, rj_0_99, rj_0_9, rj_0_6, rj_0_3, rj_0_255, rj_1_24, rj_3_39, rj_0_1, rj_0_8, rj_0_2, rj_1_30, rj_0_14, rj_12_16, hk, hw, hr, ho, ha, Option.isSome_some, i10, reduceIte, hP.1, e8, g]
              obtain ⟨rfl, -, -⟩ := rgI_s (by decide) (by decide) hk
              obtain ⟨rfl, -, -⟩ := rgI_s (by decide) (by decide) hw
              obtain ⟨rfl, -, -⟩ := rgI_s (by decide) (by decide) hr
              obtain ⟨rfl, -, -⟩ := rgI_s (by decide) (by decide) ho
              obtain ⟨rfl, -, -⟩ := rgI_s (by decide) (by decide) ha
              refine c148 hM hP hO (by omega) (fun h2 q2 hP2 => ?_)
              have hM2 : MSh m h2 := hM.my q2 (fun x j z => by unfold AX at z; unfold MY; omega)
              have e9 := hP2.1
              have sb : nI (sN (sgN (aS A) k' w' r' o' a')) - 1 = nI (sN (aS A)) := nI_pred _
              simp only [pu_n, v149_108, v149_109, v149_112, v149_113, v149_114, hM2.k0, e9, sb, true_and]
              have := hR.upd (s := sgN (aS A) k' w' r' o' a') (q := aQ A) hW q2 (fun x j z => by unfold AX at z; unfold MY; omega) (hpp.fr q2 (fun j _ _ z => by unfold AX at z; omega)) hP2 (hQ.fr q2 (fun j _ _ z => by unfold AX at z; omega))
              exact kk h2 (MG.of q2 (fun x j z => by unfold AX at z; omega)) this
end
