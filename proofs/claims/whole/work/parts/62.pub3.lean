/-! sum, status, feed, wipe, quick, says, on both sides -/
def smN (f : Nat → Nat) : Nat → Nat
  | 0 => 0
  | n + 1 => smN f n + f n
def oSum (A : XA) (w : Int32) : XA × Int32 := match rgI 0 1 w with
  | none => rfI A 0 (-2)
  | some k => (A, nI (if k = 0 then smN (fun t => sT (aS A) t 1) (sN (aS A)) else smN (fun b => sB (aS A) b 2) (sM (aS A))))
def fuN (sh : Nat → XH) (n : Nat) : Nat := cntN (fun i => (sh i).1.isSome) n
def oSts (A : XA) (w : Int32) : Int32 := if w = 0 then nI (sN (aS A)) else if w = 1 then nI (sM (aS A)) else if w = 2 then nI (sA (aS A) 0) else if w = 3 then nI (sA (aS A) 1) else if w = 4 then nI (sA (aS A) 2) else if w = 5 then nI (sA (aS A) 3)
  else if w = 6 then (aQ A).1 else if w = 7 then (aQ A).2.1 else if w = 8 then nI (aP A).1 else if w = 9 then (aQ A).2.2 else if w = 10 then nI (fuN (aH A) 8) else match rgI 12 16 w with
  | none => -1
  | some k => aF A (k - 12)
def oFed (A : XA) (v : Int32) : XA × Int32 := match rgI 0 255 v with
  | none => rfI A 0 (-2)
  | some c => if (aP A).1 = 250 then rfI A 4 (-6) else (wP A ((aP A).1 + 1, up (aP A).2 (aP A).1 c), nI ((aP A).1 + 1))
def oWip (A : XA) : XA × Int32 := (wP A (0, (aP A).2), nI (aP A).1)
def qkN (f : Nat → Nat) (v : Nat) : Nat → Nat → Int32
  | 0, _ => -1
  | j + 1, w => if v ≤ f w then nI w else qkN f v j (w + 1)
def oQck (A : XA) (k a v : Int32) : XA × Int32 := match rgI 0 5 k with
  | none => rfI A 0 (-2)
  | some k => match rgI 0 9 a with
    | none => rfI A 0 (-2)
    | some a => match rgI 0 99 v with
      | none => rfI A 0 (-2)
      | some v => (A, qkN (fun w => payN 0 k w a (if k = 2 then 1 else 0)) v 99 1)
def syN (k : Nat) (c : Nat → Nat) : Nat := if k = 0 then c 1 else if k = 2 then 1 else if k = 1 ∨ k = 4 then payN 0 (c 0) (c 1) (c 4) 0 else payN 1 (c 0) (c 1) (c 4) 0
def oSay (A : XA) (s k : Int32) : XA × Int32 := match rgI 0 7 s with
  | none => rfI A 0 (-2)
  | some i => match rgI 0 5 k with
    | none => rfI A 0 (-2)
    | some k => match (aH A i).1 with
      | none => rfI A 2 (-4)
      | some x => if 10 ≤ x ∧ und (sT (aS A) (x - 10) 0) k = true then (A, nI (syN k (sT (aS A) (x - 10)))) else rfI A 1 (-3)
theorem rgI_n {l m k : Nat} {v : Int32} (h : rgI l m v = none) (h1 : l ≤ k) (h2 : k ≤ m) (hm : m ≤ 1000000) : ¬ v = nI k := fun e => by
  rw [e, rgI_k h1 h2 hm] at h
  cases h
section
variable {b m : Nat} {u : LU} {A : XA} {h h1 : Hp} {K : Option Value → Hp → Prop}
theorem c128_t (hO : SOk (aS A)) {a : Nat} {ρ β : Nat → Nat} (hQ : SQ a ρ β h) (hV : SV a ρ β (aS A) h) : AM 128 [.ref (a + 1), .int (nI (sN (aS A))), .int 1] h K = K (some (.int (nI (smN (fun t => sT (aS A) t 1) (sN (aS A)))))) h := by
  have hn8 := hO.1
  obtain ⟨y1, y2, y3, y4, y5, y6, y7, y8, y9, y10, -⟩ := id hQ
  have l : ∀ (j t : Nat), t + j = sN (aS A) → V 128 5 [.ref (a + 1), .int (nI (sN (aS A))), .int 1, .int (nI (smN (fun t => sT (aS A) t 1) t)), .int (nI t)] [] h K = K (some (.int (nI (smN (fun t => sT (aS A) t 1) (sN (aS A)))))) h := by
    intro j
    induction j with
    | zero =>
      intro t hi
      have e : t = sN (aS A) := by omega
      subst e
      have e8 : (nI (sN (aS A)) ≤ nI (sN (aS A))) = True := eq_true (nI_le (Nat.le_refl _) (by omega))
      simp only [v128_0, v128_1, v128_2, v128_3, v128_5, v128_7, v128_8, v128_11, v128_12, v128_13, v128_15, v128_16, v128_17, v128_18, v128_19, v128_20, v128_26, v128_27, e8, reduceIte]
    | succ j ih =>
      intro t hi
      have lt : (nI (sN (aS A)) ≤ nI t) = False := eq_false (nI_ge (by omega) (by omega))
      obtain ⟨u1, u2, u3, -, -⟩ := hQ.th (show t < 8 by omega)
      have c1 : (nI t).toNatClampNeg = t := nIc (by omega)
      have i1 : inb (nI t) 8 = True := nIb (by omega) (by omega)
      have e1 := hV.t (t := t) (by omega) (k := 1) (by omega)
      simp only [v128_0, v128_1, v128_2, v128_3, v128_5, v128_7, v128_8, v128_11, v128_12, v128_13, v128_15, v128_16, v128_17, v128_18, v128_19, v128_20, v128_26, v128_27, lt, reduceIte, y5, y6, vrf_s, u1, u2, u3, c1, i1, ib7_0, ib7_1, ib7_2, ib7_3, ib7_4, ib7_5, ib7_6, ib3_0, ib3_1, ib3_2, ib4_0, ib4_1, ib4_2, ib4_3, tc0, tc1, tc2, tc3, tc4, tc5, tc6, e1, nI_add, nI_1, true_and, true_or, or_true, and_self]
      rw [v128_23]
      exact ih (t + 1) (by omega)
  simp only [e128, v128_0, v128_1, v128_2, v128_3]
  exact l (sN (aS A)) 0 (Nat.zero_add _)
theorem c128_b (hO : SOk (aS A)) {a : Nat} {ρ β : Nat → Nat} (hQ : SQ a ρ β h) (hV : SV a ρ β (aS A) h) : AM 128 [.ref (a + 10), .int (nI (sM (aS A))), .int 2] h K = K (some (.int (nI (smN (fun t => sB (aS A) t 2) (sM (aS A)))))) h := by
  have hn8 := hO.2.1
  obtain ⟨y1, y2, y3, y4, y5, y6, y7, y8, y9, y10, -⟩ := id hQ
  have l : ∀ (j t : Nat), t + j = sM (aS A) → V 128 5 [.ref (a + 10), .int (nI (sM (aS A))), .int 2, .int (nI (smN (fun t => sB (aS A) t 2) t)), .int (nI t)] [] h K = K (some (.int (nI (smN (fun t => sB (aS A) t 2) (sM (aS A)))))) h := by
    intro j
    induction j with
    | zero =>
      intro t hi
      have e : t = sM (aS A) := by omega
      subst e
      have e8 : (nI (sM (aS A)) ≤ nI (sM (aS A))) = True := eq_true (nI_le (Nat.le_refl _) (by omega))
      simp only [v128_0, v128_1, v128_2, v128_3, v128_5, v128_7, v128_8, v128_11, v128_12, v128_13, v128_15, v128_16, v128_17, v128_18, v128_19, v128_20, v128_26, v128_27, e8, reduceIte]
    | succ j ih =>
      intro t hi
      have lt : (nI (sM (aS A)) ≤ nI t) = False := eq_false (nI_ge (by omega) (by omega))
      obtain ⟨u1, u2, u3, -, -⟩ := hQ.by (show t < 24 by omega)
      have c1 : (nI t).toNatClampNeg = t := nIc (by omega)
      have i1 : inb (nI t) 24 = True := nIb (by omega) (by omega)
      have e1 := hV.b (b := t) (by omega) (k := 2) (by omega)
      simp only [v128_0, v128_1, v128_2, v128_3, v128_5, v128_7, v128_8, v128_11, v128_12, v128_13, v128_15, v128_16, v128_17, v128_18, v128_19, v128_20, v128_26, v128_27, lt, reduceIte, y7, y8, vrf_s, u1, u2, u3, c1, i1, ib7_0, ib7_1, ib7_2, ib7_3, ib7_4, ib7_5, ib7_6, ib3_0, ib3_1, ib3_2, ib4_0, ib4_1, ib4_2, ib4_3, tc0, tc1, tc2, tc3, tc4, tc5, tc6, e1, nI_add, nI_1, true_and, true_or, or_true, and_self]
      rw [v128_23]
      exact ih (t + 1) (by omega)
  simp only [e128, v128_0, v128_1, v128_2, v128_3]
  exact l (sM (aS A)) 0 (Nat.zero_add _)
theorem k102 (hC : CL b A h) (hW : WF A) (w : Int32) (kk : ∀ h2, Fr (CW b) h h2 → CL b (oSum A w).1 h2 → K (some (.int (oSum A w).2)) h2) : AM 102 [.ref b, .int w] h K := by
  obtain ⟨⟨cn, kb, f0, f1, f3, f4, f5, f6⟩, hST, hKP, hTR, hTA, ⟨s1, s2, s3⟩, hRF⟩ := id hC
  obtain ⟨ρ, β, hQ, hV, hO, -⟩ := id hST
  obtain ⟨y1, y2, y3, -⟩ := id hQ
  unfold oSum at kk
  cases h0 : rgI 0 1 w with
  | none =>
    rw [h0] at kk
    have n0 : ¬ w = 0 := rgI_n h0 (k := 0) (by decide) (by decide) (by decide)
    have n1 : ¬ w = 1 := rgI_n h0 (k := 1) (by decide) (by decide) (by decide)
    simp only [v102_0, v102_1, v102_4, v102_5, v102_8, v102_11, v102_12, v102_15, v102_18, v102_19, v102_22, v102_23, v102_24, v102_25, v102_28, v102_29, v102_32, v102_35, v102_36, v102_39, v102_42, v102_43, v102_46, v102_47, v102_48, v102_50, v102_53, e102, kb, f0, f1, f3, f4, f5, f6, vrf_s, true_and, true_or, or_true, and_self, not_false_eq_true, pu_s, pu_n, z2_e0, z2_n0, z2_t, z2_f, n0, n1, reduceIte]
    exact k108 (w := 0) hC hW (by decide) (by decide) (fun h2 q2 hC2 => by simp only [pu_s, v102_53]; exact kk h2 q2 hC2)
  | some k =>
    rw [h0] at kk
    obtain ⟨ew, -, hk⟩ := rgI_s (by decide) (by decide) h0
    rcases (show k = 0 ∨ k = 1 by omega) with rfl | rfl
    · have e : w = 0 := ew
      subst e
      simp only [v102_0, v102_1, v102_4, v102_5, v102_8, v102_11, v102_12, v102_15, v102_18, v102_19, v102_22, v102_23, v102_24, v102_25, v102_28, v102_29, v102_32, v102_35, v102_36, v102_39, v102_42, v102_43, v102_46, v102_47, v102_48, v102_50, v102_53, e102, kb, f0, f1, f3, f4, f5, f6, vrf_s, true_and, true_or, or_true, and_self, not_false_eq_true, pu_s, pu_n, z2_e0, z2_n0, z2_t, z2_f, y1, y2, hV.1, reduceIte, not_true_eq_false, c128_t hO hQ hV]
      exact kk h Fr.rf hC
    · have e : w = 1 := ew
      subst e
      simp only [v102_0, v102_1, v102_4, v102_5, v102_8, v102_11, v102_12, v102_15, v102_18, v102_19, v102_22, v102_23, v102_24, v102_25, v102_28, v102_29, v102_32, v102_35, v102_36, v102_39, v102_42, v102_43, v102_46, v102_47, v102_48, v102_50, v102_53, e102, kb, f0, f1, f3, f4, f5, f6, vrf_s, true_and, true_or, or_true, and_self, not_false_eq_true, pu_s, pu_n, z2_e0, z2_n0, z2_t, z2_f, y1, y3, hV.2.1, i10, reduceIte, not_true_eq_false, c128_b hO hQ hV]
      exact kk h Fr.rf hC
theorem k228 (hR : MR m u A h) (hW : WF A) (w : Int32) (kk : ∀ (h2 : Hp) (u2 : LU), MG m h h2 → MR m u2 (oSum A w).1 h2 → K (some (.int (oSum A w).2)) h2) : AM 228 [.ref m, .int w] h K := by
  obtain ⟨r0, hM, hpp, hP, hQ, hS, hT, hF, hL⟩ := id hR
  have hn8 := hW.1.1
  have hm24 := hW.1.2.1
  unfold oSum at kk
  replace kk := fun h2 => kk h2 u
  cases h0 : rgI 0 1 w with
  | none =>
    rw [h0] at kk
    simp only [e228, v228_0, v228_1, v228_2, v228_3, v228_4, v228_7, v228_10, v228_11, v228_13, hM.f0, hM.f1, hM.f2, hM.f3, hM.f4, hM.f5, hM.f6, hM.f8, hM.f10, hM.f12, hM.f13, hM.f25, hM.f27, hM.f28, hM.f36, hM.f37, hM.f38, hM.f40, hM.k0, hM.k1, hM.k2, hM.k3, hM.k4, hM.k13, hM.k14, hM.k15, hM.k16, hM.k17, hM.k26, hM.k51, hM.k52, hM.k53, hM.k54, hM.k55, hM.k56, hM.k57, hM.k58, hM.n1, hM.n2, hM.n3, hM.n4, hM.n13, hM.n14, hM.n15, hM.n16, hM.n17, hM.n26, hM.n51, hM.n52, hM.n53, hM.n54, hM.n55, hM.n56, hM.n57, hM.n58, vrf_s, true_or, or_true, true_and, and_true, and_self, not_false_eq_true, pu_s, pu_n, z2_e0, z2_n0, z2_t, z2_f, c135, rj_0_7, rj_0_4, rj_0_40, rj_0_5, rj_1_99, rj_1_9, rj_0_99, rj_0_9, rj_0_6, rj_0_3, rj_0_255, rj_1_24, rj_3_39, rj_0_1, rj_0_8, rj_0_2, rj_1_30, rj_0_14, rj_12_16, h0, Option.isSome_none, reduceIte]
    exact k134 (w := 0) hR hW (by decide) (by decide) (fun h2 q2 hR2 => by simp only [pu_s, v228_16]; exact kk h2 (MG.of q2 (fun a j z => by omega)) hR2)
  | some k =>
    rw [h0] at kk
    obtain ⟨ew, -, hk⟩ := rgI_s (by decide) (by decide) h0
    have zz : ∀ x : Nat, (x ≤ 0) → x = 0 := fun x hx => by omega
    simp only [e228, v228_0, v228_1, v228_2, v228_3, v228_4, v228_7, v228_17, v228_18, v228_19, v228_20, pu_s, pu_n, z2_e0, z2_n0, z2_t, z2_f, c135, rj_0_7, rj_0_4, rj_0_40, rj_0_5, rj_1_99, rj_1_9, rj_0_99, rj_0_9, rj_0_6, rj_0_3, rj_0_255, rj_1_24, rj_3_39, rj_0_1, rj_0_8, rj_0_2, rj_1_30, rj_0_14, rj_12_16, h0, Option.isSome_some, i10, reduceIte]
    rcases (show k = 0 ∨ k = 1 by omega) with rfl | rfl
    · have e : w = 0 := ew
      subst e
      have l2 : ∀ (x : Int32), V 228 52 [.ref m, .int 0, .int x, .int 0] [] h K = K (some (.int x)) h := fun x => by
        by_cases g : sM (aS A) = 0
        · have e8 : (nI (sM (aS A)) ≤ 0) = True := by rw [n_le0 (by omega)]; exact eq_true g
          simp only [v228_52, v228_53, v228_54, v228_57, v228_82, v228_83, hM.k0, hP.2.1, e8, reduceIte, true_and]
        · have e8 : (nI (sM (aS A)) ≤ 0) = False := by rw [n_le0 (by omega)]; exact eq_false g
          simp only [v228_52, v228_53, v228_54, v228_57, v228_60, v228_61, v228_62, v228_82, v228_83, hM.k0, hP.2.1, e8, l01, reduceIte, true_and, not_false_eq_true]
      have l : ∀ (j t : Nat), t + j = sN (aS A) → V 228 21 [.ref m, .int 0, .int (nI (smN (fun t => sT (aS A) t 1) t)), .int (nI t)] [] h K = K (some (.int (nI (smN (fun t => sT (aS A) t 1) (sN (aS A)))))) h := by
        intro j
        induction j with
        | zero =>
          intro t hi
          have e : t = sN (aS A) := by omega
          subst e
          have e8 : (nI (sN (aS A)) ≤ nI (sN (aS A))) = True := eq_true (nI_le (Nat.le_refl _) (by omega))
          simp only [v228_21, v228_22, v228_23, v228_26, v228_50, v228_51, hM.k0, hP.1, e8, reduceIte, true_and]
          exact l2 _
        | succ j ih =>
          intro t hi
          have lt : (nI (sN (aS A)) ≤ nI t) = False := eq_false (nI_ge (by omega) (by omega))
          obtain ⟨u1, u2, u3⟩ := hM.th (show t < 8 by omega)
          have c1 : (nI t).toNatClampNeg = t := nIc (by omega)
          have i1 : inb (nI t) 8 = True := nIb (by omega) (by omega)
          have e1 := hP.t (t := t) (by omega) (k := 1) (by omega)
          simp only [v228_21, v228_22, v228_23, v228_26, v228_29, v228_30, v228_33, v228_34, v228_35, v228_38, v228_39, v228_40, v228_41, v228_42, v228_43, v228_44, hM.f0, hM.f1, hM.f2, hM.f3, hM.f4, hM.f5, hM.f6, hM.f8, hM.f10, hM.f12, hM.f13, hM.f25, hM.f27, hM.f28, hM.f36, hM.f37, hM.f38, hM.f40, hM.k0, hM.k1, hM.k2, hM.k3, hM.k4, hM.k13, hM.k14, hM.k15, hM.k16, hM.k17, hM.k26, hM.k51, hM.k52, hM.k53, hM.k54, hM.k55, hM.k56, hM.k57, hM.k58, hM.n1, hM.n2, hM.n3, hM.n4, hM.n13, hM.n14, hM.n15, hM.n16, hM.n17, hM.n26, hM.n51, hM.n52, hM.n53, hM.n54, hM.n55, hM.n56, hM.n57, hM.n58, vrf_s, true_or, or_true, true_and, and_true, and_self, not_false_eq_true, hP.1, lt, reduceIte, u1, u2, u3, c1, i1, ib7_0, ib7_1, ib7_2, ib7_3, ib7_4, ib7_5, ib7_6, ib3_0, ib3_1, ib3_2, ib4_0, ib4_1, ib4_2, ib4_3, tc0, tc1, tc2, tc3, tc4, tc5, tc6, e1, nI_add, nI_1, not_true_eq_false]
          rw [v228_47]
          exact ih (t + 1) (by omega)
      show V 228 21 [.ref m, .int 0, .int (nI (smN (fun t => sT (aS A) t 1) 0)), .int (nI 0)] [] h K
      rw [l (sN (aS A)) 0 (Nat.zero_add _)]
      exact kk h MG.rf hR
    · have e : w = 1 := ew
      subst e
      have l : ∀ (j t : Nat), t + j = sM (aS A) → V 228 52 [.ref m, .int 1, .int (nI (smN (fun t => sB (aS A) t 2) t)), .int (nI t)] [] h K = K (some (.int (nI (smN (fun t => sB (aS A) t 2) (sM (aS A)))))) h := by
        intro j
        induction j with
        | zero =>
          intro t hi
          have e : t = sM (aS A) := by omega
          subst e
          have e8 : (nI (sM (aS A)) ≤ nI (sM (aS A))) = True := eq_true (nI_le (Nat.le_refl _) (by omega))
          simp only [v228_52, v228_53, v228_54, v228_57, v228_82, v228_83, hM.k0, hP.2.1, e8, reduceIte, true_and]
        | succ j ih =>
          intro t hi
          have lt : (nI (sM (aS A)) ≤ nI t) = False := eq_false (nI_ge (by omega) (by omega))
          obtain ⟨u1, u2, u3⟩ := hM.by (show t < 24 by omega)
          have c1 : (nI t).toNatClampNeg = t := nIc (by omega)
          have i1 : inb (nI t) 24 = True := nIb (by omega) (by omega)
          have e1 := hP.b (b := t) (by omega) (k := 2) (by omega)
          simp only [v228_52, v228_53, v228_54, v228_57, v228_60, v228_61, v228_62, v228_65, v228_66, v228_67, v228_70, v228_71, v228_72, v228_73, v228_74, v228_75, v228_76, hM.f0, hM.f1, hM.f2, hM.f3, hM.f4, hM.f5, hM.f6, hM.f8, hM.f10, hM.f12, hM.f13, hM.f25, hM.f27, hM.f28, hM.f36, hM.f37, hM.f38, hM.f40, hM.k0, hM.k1, hM.k2, hM.k3, hM.k4, hM.k13, hM.k14, hM.k15, hM.k16, hM.k17, hM.k26, hM.k51, hM.k52, hM.k53, hM.k54, hM.k55, hM.k56, hM.k57, hM.k58, hM.n1, hM.n2, hM.n3, hM.n4, hM.n13, hM.n14, hM.n15, hM.n16, hM.n17, hM.n26, hM.n51, hM.n52, hM.n53, hM.n54, hM.n55, hM.n56, hM.n57, hM.n58, vrf_s, true_or, or_true, true_and, and_true, and_self, not_false_eq_true, hP.2.1, lt, reduceIte, u1, u2, u3, c1, i1, ib7_0, ib7_1, ib7_2, ib7_3, ib7_4, ib7_5, ib7_6, ib3_0, ib3_1, ib3_2, ib4_0, ib4_1, ib4_2, ib4_3, tc0, tc1, tc2, tc3, tc4, tc5, tc6, e1, nI_add, nI_1, not_true_eq_false]
          rw [v228_79]
          exact ih (t + 1) (by omega)
      have s0 : V 228 21 [.ref m, .int 1, .int 0, .int 0] [] h K = V 228 52 [.ref m, .int 1, .int (nI (smN (fun t => sB (aS A) t 2) 0)), .int (nI 0)] [] h K := by
        by_cases g : sN (aS A) = 0
        · have e8 : (nI (sN (aS A)) ≤ 0) = True := by rw [n_le0 (by omega)]; exact eq_true g
          simp only [v228_21, v228_22, v228_23, v228_26, v228_50, v228_51, hM.k0, hP.1, e8, reduceIte, true_and]
          rfl
        · have e8 : (nI (sN (aS A)) ≤ 0) = False := by rw [n_le0 (by omega)]; exact eq_false g
          simp only [v228_21, v228_22, v228_23, v228_26, v228_29, v228_30, v228_50, v228_51, hM.k0, hP.1, e8, i10, reduceIte, true_and, not_false_eq_true]
          rfl
      rw [s0, l (sM (aS A)) 0 (Nat.zero_add _)]
      exact kk h MG.rf hR
theorem cntN_s (f : Nat → Bool) (n : Nat) : cntN f (n + 1) = cntN f n + if f n = true then 1 else 0 := rfl
theorem k122 (hC : CL b A h) (hW : WF A) : AM 122 [.ref b] h K = K (some (.int (nI (fuN (aH A) 8)))) h := by
  obtain ⟨⟨cn, kb, f0, f1, f3, f4, f5, f6⟩, hST, hKP, hTR, hTA, ⟨s1, s2, s3⟩, hRF⟩ := id hC
  have l : ∀ (j t : Nat), t + j = 8 → V 122 4 [.ref b, .int (nI (fuN (aH A) t)), .int (nI t)] [] h K = K (some (.int (nI (fuN (aH A) 8)))) h := by
    intro j
    induction j with
    | zero =>
      intro t hi
      have e : t = 8 := by omega
      subst e
      have e8 : ((8 : Int32) ≤ nI 8) = True := eq_true (by decide)
      simp only [v122_0, v122_1, v122_2, v122_3, v122_4, v122_5, v122_7, v122_10, v122_11, v122_14, v122_15, v122_16, v122_19, v122_22, v122_25, v122_31, v122_32, e8, reduceIte]
    | succ j ih =>
      intro t hi
      have e8 : ((8 : Int32) ≤ nI t) = False := eq_false (nI_ge (b := 8) (by omega) (by decide))
      obtain ⟨x1, x2, x3, x4, x5, x6, x7, x8⟩ := s3 t (by omega)
      have c1 : (nI t).toNatClampNeg = t := nIc (by omega)
      have i1 : inb (nI t) 8 = True := nIb (by omega) (by omega)
      have hb := SHC.bd hW (show t < 8 by omega)
      refine Eq.trans (b := V 122 28 [.ref b, .int (nI (fuN (aH A) (t + 1))), .int (nI (t + 1))] [] h K) ?_ ((v122_28 _ _ _ _).trans (ih (t + 1) (by omega)))
      unfold fuN
      rw [cntN_s]
      cases ho : (aH A t).1 with
      | none =>
        have c14' := fun K => c14 (K := K) x2 x6 hb
        rw [ho] at c14'
        simp only [v122_0, v122_1, v122_2, v122_3, v122_4, v122_5, v122_7, v122_10, v122_11, v122_14, v122_15, v122_16, v122_19, v122_22, v122_25, v122_31, v122_32, kb, f0, f1, f3, f4, f5, f6, vrf_s, true_and, true_or, or_true, and_self, not_false_eq_true, pu_s, pu_n, z2_e0, z2_n0, z2_t, z2_f, e8, reduceIte, s1, s2, c1, i1, x1, x2, c14', Option.isNone_none, i10, Option.isSome_none, Bool.false_eq_true, Nat.add_zero, nI_1, not_false_eq_true]
      | some k =>
        have c14' := fun K => c14 (K := K) x2 x6 hb
        rw [ho] at c14'
        simp only [v122_0, v122_1, v122_2, v122_3, v122_4, v122_5, v122_7, v122_10, v122_11, v122_14, v122_15, v122_16, v122_19, v122_22, v122_25, v122_31, v122_32, kb, f0, f1, f3, f4, f5, f6, vrf_s, true_and, true_or, or_true, and_self, not_false_eq_true, pu_s, pu_n, z2_e0, z2_n0, z2_t, z2_f, e8, reduceIte, s1, s2, c1, i1, x1, x2, c14', Option.isNone_some, Option.isSome_some, nI_1, not_true_eq_false]
  simp only [e122, v122_0, v122_1, v122_2, v122_3]
  exact l 8 0 rfl
theorem st_d {w : Int32} (h0 : ¬ w = 0) (h1 : ¬ w = 1) (h2 : ¬ w = 2) (h3 : ¬ w = 3) (h4 : ¬ w = 4) (h5 : ¬ w = 5) (h6 : ¬ w = 6) (h7 : ¬ w = 7) (h8 : ¬ w = 8) (h9 : ¬ w = 9) (ha : ¬ w = 10) : w.toInt < 0 ∨ 10 < w.toInt := by
  have e0 : w.toInt ≠ 0 := fun z => h0 (Int32.toInt_inj.mp z)
  have e1 : w.toInt ≠ 1 := fun z => h1 (Int32.toInt_inj.mp z)
  have e2 : w.toInt ≠ 2 := fun z => h2 (Int32.toInt_inj.mp z)
  have e3 : w.toInt ≠ 3 := fun z => h3 (Int32.toInt_inj.mp z)
  have e4 : w.toInt ≠ 4 := fun z => h4 (Int32.toInt_inj.mp z)
  have e5 : w.toInt ≠ 5 := fun z => h5 (Int32.toInt_inj.mp z)
  have e6 : w.toInt ≠ 6 := fun z => h6 (Int32.toInt_inj.mp z)
  have e7 : w.toInt ≠ 7 := fun z => h7 (Int32.toInt_inj.mp z)
  have e8 : w.toInt ≠ 8 := fun z => h8 (Int32.toInt_inj.mp z)
  have e9 : w.toInt ≠ 9 := fun z => h9 (Int32.toInt_inj.mp z)
  have ea : w.toInt ≠ 10 := fun z => ha (Int32.toInt_inj.mp z)
  omega
theorem nS12 {k : Nat} (hk : 12 ≤ k) : nI k - 12 = nI (k - 12) := nI_subN (b := 12) hk
theorem nS10' {k : Nat} (hk : 10 ≤ k) : nI k - 10 = nI (k - 10) := nI_subN (b := 10) hk
theorem k107 (hC : CL b A h) (hW : WF A) (w : Int32) : AM 107 [.ref b, .int w] h K = K (some (.int (oSts A w))) h := by
  obtain ⟨⟨cn, kb, f0, f1, f3, f4, f5, f6⟩, hST, hKP, hTR, hTA, ⟨s1, s2, s3⟩, hRF⟩ := id hC
  obtain ⟨ρ, β, hQ, hV, hO, q5, q6, q7⟩ := id hST
  obtain ⟨y1, y2, y3, y4, y5, y6, y7, y8, y9, y10, -⟩ := id hQ
  obtain ⟨a1, a2, a3, a4, a5, a6, a7, a8, a9⟩ := id hTA
  obtain ⟨g1, g2, g3⟩ := id hRF
  have z0 := hV.aa (k := 0) (by omega)
  have z1 := hV.aa (k := 1) (by omega)
  have z2' := hV.aa (k := 2) (by omega)
  have z3 := hV.aa (k := 3) (by omega)
  unfold oSts
  by_cases h0 : w = 0
  · subst h0; simp only [v107_0, v107_1_0, v107_1_1, v107_1_2, v107_1_3, v107_1_4, v107_1_5, v107_1_6, v107_1_7, v107_1_8, v107_1_9, v107_1_10, v107_1_d, v107_60, v107_61, v107_64, v107_67, v107_68, v107_69, v107_72, v107_75, v107_76, v107_77, v107_80, v107_83, v107_84, v107_85, v107_86, v107_87, v107_90, v107_93, v107_94, v107_95, v107_96, v107_97, v107_100, v107_103, v107_104, v107_105, v107_106, v107_107, v107_110, v107_113, v107_114, v107_115, v107_116, v107_117, v107_120, v107_123, v107_124, v107_125, v107_128, v107_131, v107_132, v107_133, v107_136, v107_139, v107_140, v107_141, v107_144, v107_147, v107_148, v107_149, v107_152, v107_153, v107_154, v107_156, v107_158, v107_161, v107_164, v107_165, v107_168, v107_169, v107_171, v107_172, v107_173, v107_176, v107_177, e107, kb, f0, f1, f3, f4, f5, f6, vrf_s, true_and, true_or, or_true, and_self, not_false_eq_true, pu_s, pu_n, z2_e0, z2_n0, z2_t, z2_f, y1, hV.1, reduceIte]
  · by_cases h1 : w = 1
    · subst h1; simp only [v107_0, v107_1_0, v107_1_1, v107_1_2, v107_1_3, v107_1_4, v107_1_5, v107_1_6, v107_1_7, v107_1_8, v107_1_9, v107_1_10, v107_1_d, v107_60, v107_61, v107_64, v107_67, v107_68, v107_69, v107_72, v107_75, v107_76, v107_77, v107_80, v107_83, v107_84, v107_85, v107_86, v107_87, v107_90, v107_93, v107_94, v107_95, v107_96, v107_97, v107_100, v107_103, v107_104, v107_105, v107_106, v107_107, v107_110, v107_113, v107_114, v107_115, v107_116, v107_117, v107_120, v107_123, v107_124, v107_125, v107_128, v107_131, v107_132, v107_133, v107_136, v107_139, v107_140, v107_141, v107_144, v107_147, v107_148, v107_149, v107_152, v107_153, v107_154, v107_156, v107_158, v107_161, v107_164, v107_165, v107_168, v107_169, v107_171, v107_172, v107_173, v107_176, v107_177, e107, kb, f0, f1, f3, f4, f5, f6, vrf_s, true_and, true_or, or_true, and_self, not_false_eq_true, pu_s, pu_n, z2_e0, z2_n0, z2_t, z2_f, y1, hV.2.1, i10, reduceIte]
    · by_cases h2 : w = 2
      · subst h2; simp only [v107_0, v107_1_0, v107_1_1, v107_1_2, v107_1_3, v107_1_4, v107_1_5, v107_1_6, v107_1_7, v107_1_8, v107_1_9, v107_1_10, v107_1_d, v107_60, v107_61, v107_64, v107_67, v107_68, v107_69, v107_72, v107_75, v107_76, v107_77, v107_80, v107_83, v107_84, v107_85, v107_86, v107_87, v107_90, v107_93, v107_94, v107_95, v107_96, v107_97, v107_100, v107_103, v107_104, v107_105, v107_106, v107_107, v107_110, v107_113, v107_114, v107_115, v107_116, v107_117, v107_120, v107_123, v107_124, v107_125, v107_128, v107_131, v107_132, v107_133, v107_136, v107_139, v107_140, v107_141, v107_144, v107_147, v107_148, v107_149, v107_152, v107_153, v107_154, v107_156, v107_158, v107_161, v107_164, v107_165, v107_168, v107_169, v107_171, v107_172, v107_173, v107_176, v107_177, e107, kb, f0, f1, f3, f4, f5, f6, vrf_s, true_and, true_or, or_true, and_self, not_false_eq_true, pu_s, pu_n, z2_e0, z2_n0, z2_t, z2_f, y1, y4, y9, y10, ib7_0, ib7_1, ib7_2, ib7_3, ib7_4, ib7_5, ib7_6, ib3_0, ib3_1, ib3_2, ib4_0, ib4_1, ib4_2, ib4_3, tc0, tc1, tc2, tc3, tc4, tc5, tc6, z0, l20, l21, reduceIte]
      · by_cases h3 : w = 3
        · subst h3; simp only [v107_0, v107_1_0, v107_1_1, v107_1_2, v107_1_3, v107_1_4, v107_1_5, v107_1_6, v107_1_7, v107_1_8, v107_1_9, v107_1_10, v107_1_d, v107_60, v107_61, v107_64, v107_67, v107_68, v107_69, v107_72, v107_75, v107_76, v107_77, v107_80, v107_83, v107_84, v107_85, v107_86, v107_87, v107_90, v107_93, v107_94, v107_95, v107_96, v107_97, v107_100, v107_103, v107_104, v107_105, v107_106, v107_107, v107_110, v107_113, v107_114, v107_115, v107_116, v107_117, v107_120, v107_123, v107_124, v107_125, v107_128, v107_131, v107_132, v107_133, v107_136, v107_139, v107_140, v107_141, v107_144, v107_147, v107_148, v107_149, v107_152, v107_153, v107_154, v107_156, v107_158, v107_161, v107_164, v107_165, v107_168, v107_169, v107_171, v107_172, v107_173, v107_176, v107_177, e107, kb, f0, f1, f3, f4, f5, f6, vrf_s, true_and, true_or, or_true, and_self, not_false_eq_true, pu_s, pu_n, z2_e0, z2_n0, z2_t, z2_f, y1, y4, y9, y10, ib7_0, ib7_1, ib7_2, ib7_3, ib7_4, ib7_5, ib7_6, ib3_0, ib3_1, ib3_2, ib4_0, ib4_1, ib4_2, ib4_3, tc0, tc1, tc2, tc3, tc4, tc5, tc6, z1, l30, l31, l32, reduceIte]
        · by_cases h4 : w = 4
          · subst h4; simp only [v107_0, v107_1_0, v107_1_1, v107_1_2, v107_1_3, v107_1_4, v107_1_5, v107_1_6, v107_1_7, v107_1_8, v107_1_9, v107_1_10, v107_1_d, v107_60, v107_61, v107_64, v107_67, v107_68, v107_69, v107_72, v107_75, v107_76, v107_77, v107_80, v107_83, v107_84, v107_85, v107_86, v107_87, v107_90, v107_93, v107_94, v107_95, v107_96, v107_97, v107_100, v107_103, v107_104, v107_105, v107_106, v107_107, v107_110, v107_113, v107_114, v107_115, v107_116, v107_117, v107_120, v107_123, v107_124, v107_125, v107_128, v107_131, v107_132, v107_133, v107_136, v107_139, v107_140, v107_141, v107_144, v107_147, v107_148, v107_149, v107_152, v107_153, v107_154, v107_156, v107_158, v107_161, v107_164, v107_165, v107_168, v107_169, v107_171, v107_172, v107_173, v107_176, v107_177, e107, kb, f0, f1, f3, f4, f5, f6, vrf_s, true_and, true_or, or_true, and_self, not_false_eq_true, pu_s, pu_n, z2_e0, z2_n0, z2_t, z2_f, y1, y4, y9, y10, ib7_0, ib7_1, ib7_2, ib7_3, ib7_4, ib7_5, ib7_6, ib3_0, ib3_1, ib3_2, ib4_0, ib4_1, ib4_2, ib4_3, tc0, tc1, tc2, tc3, tc4, tc5, tc6, z2', h0, h1, h2, h3, reduceIte]
          · by_cases h5 : w = 5
            · subst h5; simp only [v107_0, v107_1_0, v107_1_1, v107_1_2, v107_1_3, v107_1_4, v107_1_5, v107_1_6, v107_1_7, v107_1_8, v107_1_9, v107_1_10, v107_1_d, v107_60, v107_61, v107_64, v107_67, v107_68, v107_69, v107_72, v107_75, v107_76, v107_77, v107_80, v107_83, v107_84, v107_85, v107_86, v107_87, v107_90, v107_93, v107_94, v107_95, v107_96, v107_97, v107_100, v107_103, v107_104, v107_105, v107_106, v107_107, v107_110, v107_113, v107_114, v107_115, v107_116, v107_117, v107_120, v107_123, v107_124, v107_125, v107_128, v107_131, v107_132, v107_133, v107_136, v107_139, v107_140, v107_141, v107_144, v107_147, v107_148, v107_149, v107_152, v107_153, v107_154, v107_156, v107_158, v107_161, v107_164, v107_165, v107_168, v107_169, v107_171, v107_172, v107_173, v107_176, v107_177, e107, kb, f0, f1, f3, f4, f5, f6, vrf_s, true_and, true_or, or_true, and_self, not_false_eq_true, pu_s, pu_n, z2_e0, z2_n0, z2_t, z2_f, y1, y4, y9, y10, ib7_0, ib7_1, ib7_2, ib7_3, ib7_4, ib7_5, ib7_6, ib3_0, ib3_1, ib3_2, ib4_0, ib4_1, ib4_2, ib4_3, tc0, tc1, tc2, tc3, tc4, tc5, tc6, z3, h0, h1, h2, h3, h4, reduceIte]
            · by_cases h6 : w = 6
              · subst h6; simp only [v107_0, v107_1_0, v107_1_1, v107_1_2, v107_1_3, v107_1_4, v107_1_5, v107_1_6, v107_1_7, v107_1_8, v107_1_9, v107_1_10, v107_1_d, v107_60, v107_61, v107_64, v107_67, v107_68, v107_69, v107_72, v107_75, v107_76, v107_77, v107_80, v107_83, v107_84, v107_85, v107_86, v107_87, v107_90, v107_93, v107_94, v107_95, v107_96, v107_97, v107_100, v107_103, v107_104, v107_105, v107_106, v107_107, v107_110, v107_113, v107_114, v107_115, v107_116, v107_117, v107_120, v107_123, v107_124, v107_125, v107_128, v107_131, v107_132, v107_133, v107_136, v107_139, v107_140, v107_141, v107_144, v107_147, v107_148, v107_149, v107_152, v107_153, v107_154, v107_156, v107_158, v107_161, v107_164, v107_165, v107_168, v107_169, v107_171, v107_172, v107_173, v107_176, v107_177, e107, kb, f0, f1, f3, f4, f5, f6, vrf_s, true_and, true_or, or_true, and_self, not_false_eq_true, pu_s, pu_n, z2_e0, z2_n0, z2_t, z2_f, y1, q5, h0, h1, h2, h3, h4, h5, reduceIte]
              · by_cases h7 : w = 7
                · subst h7; simp only [v107_0, v107_1_0, v107_1_1, v107_1_2, v107_1_3, v107_1_4, v107_1_5, v107_1_6, v107_1_7, v107_1_8, v107_1_9, v107_1_10, v107_1_d, v107_60, v107_61, v107_64, v107_67, v107_68, v107_69, v107_72, v107_75, v107_76, v107_77, v107_80, v107_83, v107_84, v107_85, v107_86, v107_87, v107_90, v107_93, v107_94, v107_95, v107_96, v107_97, v107_100, v107_103, v107_104, v107_105, v107_106, v107_107, v107_110, v107_113, v107_114, v107_115, v107_116, v107_117, v107_120, v107_123, v107_124, v107_125, v107_128, v107_131, v107_132, v107_133, v107_136, v107_139, v107_140, v107_141, v107_144, v107_147, v107_148, v107_149, v107_152, v107_153, v107_154, v107_156, v107_158, v107_161, v107_164, v107_165, v107_168, v107_169, v107_171, v107_172, v107_173, v107_176, v107_177, e107, kb, f0, f1, f3, f4, f5, f6, vrf_s, true_and, true_or, or_true, and_self, not_false_eq_true, pu_s, pu_n, z2_e0, z2_n0, z2_t, z2_f, y1, q6, h0, h1, h2, h3, h4, h5, h6, reduceIte]
                · by_cases h8 : w = 8
                  · subst h8; simp only [v107_0, v107_1_0, v107_1_1, v107_1_2, v107_1_3, v107_1_4, v107_1_5, v107_1_6, v107_1_7, v107_1_8, v107_1_9, v107_1_10, v107_1_d, v107_60, v107_61, v107_64, v107_67, v107_68, v107_69, v107_72, v107_75, v107_76, v107_77, v107_80, v107_83, v107_84, v107_85, v107_86, v107_87, v107_90, v107_93, v107_94, v107_95, v107_96, v107_97, v107_100, v107_103, v107_104, v107_105, v107_106, v107_107, v107_110, v107_113, v107_114, v107_115, v107_116, v107_117, v107_120, v107_123, v107_124, v107_125, v107_128, v107_131, v107_132, v107_133, v107_136, v107_139, v107_140, v107_141, v107_144, v107_147, v107_148, v107_149, v107_152, v107_153, v107_154, v107_156, v107_158, v107_161, v107_164, v107_165, v107_168, v107_169, v107_171, v107_172, v107_173, v107_176, v107_177, e107, kb, f0, f1, f3, f4, f5, f6, vrf_s, true_and, true_or, or_true, and_self, not_false_eq_true, pu_s, pu_n, z2_e0, z2_n0, z2_t, z2_f, a1, a8, h0, h1, h2, h3, h4, h5, h6, h7, reduceIte]
                  · by_cases h9 : w = 9
                    · subst h9; simp only [v107_0, v107_1_0, v107_1_1, v107_1_2, v107_1_3, v107_1_4, v107_1_5, v107_1_6, v107_1_7, v107_1_8, v107_1_9, v107_1_10, v107_1_d, v107_60, v107_61, v107_64, v107_67, v107_68, v107_69, v107_72, v107_75, v107_76, v107_77, v107_80, v107_83, v107_84, v107_85, v107_86, v107_87, v107_90, v107_93, v107_94, v107_95, v107_96, v107_97, v107_100, v107_103, v107_104, v107_105, v107_106, v107_107, v107_110, v107_113, v107_114, v107_115, v107_116, v107_117, v107_120, v107_123, v107_124, v107_125, v107_128, v107_131, v107_132, v107_133, v107_136, v107_139, v107_140, v107_141, v107_144, v107_147, v107_148, v107_149, v107_152, v107_153, v107_154, v107_156, v107_158, v107_161, v107_164, v107_165, v107_168, v107_169, v107_171, v107_172, v107_173, v107_176, v107_177, e107, kb, f0, f1, f3, f4, f5, f6, vrf_s, true_and, true_or, or_true, and_self, not_false_eq_true, pu_s, pu_n, z2_e0, z2_n0, z2_t, z2_f, y1, q7, h0, h1, h2, h3, h4, h5, h6, h7, h8, reduceIte]
                    · by_cases ha : w = 10
                      · subst ha; simp only [v107_0, v107_1_0, v107_1_1, v107_1_2, v107_1_3, v107_1_4, v107_1_5, v107_1_6, v107_1_7, v107_1_8, v107_1_9, v107_1_10, v107_1_d, v107_60, v107_61, v107_64, v107_67, v107_68, v107_69, v107_72, v107_75, v107_76, v107_77, v107_80, v107_83, v107_84, v107_85, v107_86, v107_87, v107_90, v107_93, v107_94, v107_95, v107_96, v107_97, v107_100, v107_103, v107_104, v107_105, v107_106, v107_107, v107_110, v107_113, v107_114, v107_115, v107_116, v107_117, v107_120, v107_123, v107_124, v107_125, v107_128, v107_131, v107_132, v107_133, v107_136, v107_139, v107_140, v107_141, v107_144, v107_147, v107_148, v107_149, v107_152, v107_153, v107_154, v107_156, v107_158, v107_161, v107_164, v107_165, v107_168, v107_169, v107_171, v107_172, v107_173, v107_176, v107_177, e107, kb, f0, f1, f3, f4, f5, f6, vrf_s, true_and, true_or, or_true, and_self, not_false_eq_true, pu_s, pu_n, z2_e0, z2_n0, z2_t, z2_f, k122 hC hW, h0, h1, h2, h3, h4, h5, h6, h7, h8, h9, reduceIte]
                      · have hd := st_d h0 h1 h2 h3 h4 h5 h6 h7 h8 h9 ha
                        simp only [h0, h1, h2, h3, h4, h5, h6, h7, h8, h9, ha, reduceIte]
                        cases hr : rgI 12 16 w with
                        | none => simp only [v107_0, v107_1_0, v107_1_1, v107_1_2, v107_1_3, v107_1_4, v107_1_5, v107_1_6, v107_1_7, v107_1_8, v107_1_9, v107_1_10, v107_1_d, v107_60, v107_61, v107_64, v107_67, v107_68, v107_69, v107_72, v107_75, v107_76, v107_77, v107_80, v107_83, v107_84, v107_85, v107_86, v107_87, v107_90, v107_93, v107_94, v107_95, v107_96, v107_97, v107_100, v107_103, v107_104, v107_105, v107_106, v107_107, v107_110, v107_113, v107_114, v107_115, v107_116, v107_117, v107_120, v107_123, v107_124, v107_125, v107_128, v107_131, v107_132, v107_133, v107_136, v107_139, v107_140, v107_141, v107_144, v107_147, v107_148, v107_149, v107_152, v107_153, v107_154, v107_156, v107_158, v107_161, v107_164, v107_165, v107_168, v107_169, v107_171, v107_172, v107_173, v107_176, v107_177, e107, v107_1_d w hd, kb, f0, f1, f3, f4, f5, f6, vrf_s, true_and, true_or, or_true, and_self, not_false_eq_true, pu_s, pu_n, z2_e0, z2_n0, z2_t, z2_f, c123, ri_0_7, ri_0_4, ri_0_40, ri_0_5, ri_1_99, ri_1_9, ri_0_99, ri_0_9, ri_0_6, ri_0_3, ri_0_255, ri_1_24, ri_3_39, ri_0_1, ri_0_8, ri_0_2, ri_1_30, ri_0_14, ri_12_16, hr, Option.isSome_none, reduceIte]
                        | some k =>
                          obtain ⟨rfl, k1, k2⟩ := rgI_s (by decide) (by decide) hr
                          have c1 : (nI (k - 12)).toNatClampNeg = k - 12 := nIc (by omega)
                          have i1 : inb (nI (k - 12)) 5 = True := nIb (by omega) (by omega)
                          simp only [v107_0, v107_1_0, v107_1_1, v107_1_2, v107_1_3, v107_1_4, v107_1_5, v107_1_6, v107_1_7, v107_1_8, v107_1_9, v107_1_10, v107_1_d, v107_60, v107_61, v107_64, v107_67, v107_68, v107_69, v107_72, v107_75, v107_76, v107_77, v107_80, v107_83, v107_84, v107_85, v107_86, v107_87, v107_90, v107_93, v107_94, v107_95, v107_96, v107_97, v107_100, v107_103, v107_104, v107_105, v107_106, v107_107, v107_110, v107_113, v107_114, v107_115, v107_116, v107_117, v107_120, v107_123, v107_124, v107_125, v107_128, v107_131, v107_132, v107_133, v107_136, v107_139, v107_140, v107_141, v107_144, v107_147, v107_148, v107_149, v107_152, v107_153, v107_154, v107_156, v107_158, v107_161, v107_164, v107_165, v107_168, v107_169, v107_171, v107_172, v107_173, v107_176, v107_177, e107, v107_1_d _ hd, kb, f0, f1, f3, f4, f5, f6, vrf_s, true_and, true_or, or_true, and_self, not_false_eq_true, pu_s, pu_n, z2_e0, z2_n0, z2_t, z2_f, c123, ri_0_7, ri_0_4, ri_0_40, ri_0_5, ri_1_99, ri_1_9, ri_0_99, ri_0_9, ri_0_6, ri_0_3, ri_0_255, ri_1_24, ri_3_39, ri_0_1, ri_0_8, ri_0_2, ri_1_30, ri_0_14, ri_12_16, hr, Option.isSome_some, i10, reduceIte, nS12 k1, g1, g2, c1, i1, g3 (k - 12) (by omega)]
theorem k236 (hR : MR m u A h) (hW : WF A) (w : Int32) : AM 236 [.ref m, .int w] h K = K (some (.int (oSts A w))) h := by
  obtain ⟨r0, hM, hpp, hP, hQ, hS, hT, hF, hL⟩ := id hR
  have z0 := hP.a (k := 0) (by omega)
  have z1 := hP.a (k := 1) (by omega)
  have z2' := hP.a (k := 2) (by omega)
  have z3 := hP.a (k := 3) (by omega)
  have s22 : (2 : Int32) - 2 = 0 := by decide
  have s32 : (3 : Int32) - 2 = 1 := by decide
  have s42 : (4 : Int32) - 2 = 2 := by decide
  have s52 : (5 : Int32) - 2 = 3 := by decide
  unfold oSts
  by_cases h0 : w = 0
  · subst h0; simp only [v236_0, v236_1, v236_2, v236_3_0, v236_3_1, v236_3_2, v236_3_3, v236_3_4, v236_3_5, v236_3_6, v236_3_7, v236_3_8, v236_3_9, v236_3_10, v236_3_d, v236_60, v236_61, v236_64, v236_65, v236_66, v236_69, v236_70, v236_71, v236_74, v236_75, v236_76, v236_77, v236_78, v236_79, v236_80, v236_83, v236_84, v236_85, v236_88, v236_89, v236_90, v236_93, v236_94, v236_95, v236_98, v236_99, v236_100, v236_101, v236_102, v236_104, v236_107, v236_108, v236_109, v236_112, v236_113, v236_114, v236_117, v236_118, v236_121, v236_122, v236_123, v236_124, v236_130, v236_131, v236_132, v236_133, v236_134, v236_137, v236_140, v236_143, v236_146, v236_147, v236_150, v236_151, v236_153, v236_154, v236_155, v236_158, v236_159, e236, hM.f0, hM.f1, hM.f2, hM.f3, hM.f4, hM.f5, hM.f6, hM.f8, hM.f10, hM.f12, hM.f13, hM.f25, hM.f27, hM.f28, hM.f36, hM.f37, hM.f38, hM.f40, hM.k0, hM.k1, hM.k2, hM.k3, hM.k4, hM.k13, hM.k14, hM.k15, hM.k16, hM.k17, hM.k26, hM.k51, hM.k52, hM.k53, hM.k54, hM.k55, hM.k56, hM.k57, hM.k58, hM.n1, hM.n2, hM.n3, hM.n4, hM.n13, hM.n14, hM.n15, hM.n16, hM.n17, hM.n26, hM.n51, hM.n52, hM.n53, hM.n54, hM.n55, hM.n56, hM.n57, hM.n58, vrf_s, true_or, or_true, true_and, and_true, and_self, not_false_eq_true, hP.1, reduceIte]
  · by_cases h1 : w = 1
    · subst h1; simp only [v236_0, v236_1, v236_2, v236_3_0, v236_3_1, v236_3_2, v236_3_3, v236_3_4, v236_3_5, v236_3_6, v236_3_7, v236_3_8, v236_3_9, v236_3_10, v236_3_d, v236_60, v236_61, v236_64, v236_65, v236_66, v236_69, v236_70, v236_71, v236_74, v236_75, v236_76, v236_77, v236_78, v236_79, v236_80, v236_83, v236_84, v236_85, v236_88, v236_89, v236_90, v236_93, v236_94, v236_95, v236_98, v236_99, v236_100, v236_101, v236_102, v236_104, v236_107, v236_108, v236_109, v236_112, v236_113, v236_114, v236_117, v236_118, v236_121, v236_122, v236_123, v236_124, v236_130, v236_131, v236_132, v236_133, v236_134, v236_137, v236_140, v236_143, v236_146, v236_147, v236_150, v236_151, v236_153, v236_154, v236_155, v236_158, v236_159, e236, hM.f0, hM.f1, hM.f2, hM.f3, hM.f4, hM.f5, hM.f6, hM.f8, hM.f10, hM.f12, hM.f13, hM.f25, hM.f27, hM.f28, hM.f36, hM.f37, hM.f38, hM.f40, hM.k0, hM.k1, hM.k2, hM.k3, hM.k4, hM.k13, hM.k14, hM.k15, hM.k16, hM.k17, hM.k26, hM.k51, hM.k52, hM.k53, hM.k54, hM.k55, hM.k56, hM.k57, hM.k58, hM.n1, hM.n2, hM.n3, hM.n4, hM.n13, hM.n14, hM.n15, hM.n16, hM.n17, hM.n26, hM.n51, hM.n52, hM.n53, hM.n54, hM.n55, hM.n56, hM.n57, hM.n58, vrf_s, true_or, or_true, true_and, and_true, and_self, not_false_eq_true, hP.2.1, i10, reduceIte]
    · by_cases h2 : w = 2
      · subst h2; simp only [v236_0, v236_1, v236_2, v236_3_0, v236_3_1, v236_3_2, v236_3_3, v236_3_4, v236_3_5, v236_3_6, v236_3_7, v236_3_8, v236_3_9, v236_3_10, v236_3_d, v236_60, v236_61, v236_64, v236_65, v236_66, v236_69, v236_70, v236_71, v236_74, v236_75, v236_76, v236_77, v236_78, v236_79, v236_80, v236_83, v236_84, v236_85, v236_88, v236_89, v236_90, v236_93, v236_94, v236_95, v236_98, v236_99, v236_100, v236_101, v236_102, v236_104, v236_107, v236_108, v236_109, v236_112, v236_113, v236_114, v236_117, v236_118, v236_121, v236_122, v236_123, v236_124, v236_130, v236_131, v236_132, v236_133, v236_134, v236_137, v236_140, v236_143, v236_146, v236_147, v236_150, v236_151, v236_153, v236_154, v236_155, v236_158, v236_159, e236, hM.f0, hM.f1, hM.f2, hM.f3, hM.f4, hM.f5, hM.f6, hM.f8, hM.f10, hM.f12, hM.f13, hM.f25, hM.f27, hM.f28, hM.f36, hM.f37, hM.f38, hM.f40, hM.k0, hM.k1, hM.k2, hM.k3, hM.k4, hM.k13, hM.k14, hM.k15, hM.k16, hM.k17, hM.k26, hM.k51, hM.k52, hM.k53, hM.k54, hM.k55, hM.k56, hM.k57, hM.k58, hM.n1, hM.n2, hM.n3, hM.n4, hM.n13, hM.n14, hM.n15, hM.n16, hM.n17, hM.n26, hM.n51, hM.n52, hM.n53, hM.n54, hM.n55, hM.n56, hM.n57, hM.n58, vrf_s, true_or, or_true, true_and, and_true, and_self, not_false_eq_true, s22, ib7_0, ib7_1, ib7_2, ib7_3, ib7_4, ib7_5, ib7_6, ib3_0, ib3_1, ib3_2, ib4_0, ib4_1, ib4_2, ib4_3, tc0, tc1, tc2, tc3, tc4, tc5, tc6, z0, l20, l21, reduceIte]
      · by_cases h3 : w = 3
        · subst h3; simp only [v236_0, v236_1, v236_2, v236_3_0, v236_3_1, v236_3_2, v236_3_3, v236_3_4, v236_3_5, v236_3_6, v236_3_7, v236_3_8, v236_3_9, v236_3_10, v236_3_d, v236_60, v236_61, v236_64, v236_65, v236_66, v236_69, v236_70, v236_71, v236_74, v236_75, v236_76, v236_77, v236_78, v236_79, v236_80, v236_83, v236_84, v236_85, v236_88, v236_89, v236_90, v236_93, v236_94, v236_95, v236_98, v236_99, v236_100, v236_101, v236_102, v236_104, v236_107, v236_108, v236_109, v236_112, v236_113, v236_114, v236_117, v236_118, v236_121, v236_122, v236_123, v236_124, v236_130, v236_131, v236_132, v236_133, v236_134, v236_137, v236_140, v236_143, v236_146, v236_147, v236_150, v236_151, v236_153, v236_154, v236_155, v236_158, v236_159, e236, hM.f0, hM.f1, hM.f2, hM.f3, hM.f4, hM.f5, hM.f6, hM.f8, hM.f10, hM.f12, hM.f13, hM.f25, hM.f27, hM.f28, hM.f36, hM.f37, hM.f38, hM.f40, hM.k0, hM.k1, hM.k2, hM.k3, hM.k4, hM.k13, hM.k14, hM.k15, hM.k16, hM.k17, hM.k26, hM.k51, hM.k52, hM.k53, hM.k54, hM.k55, hM.k56, hM.k57, hM.k58, hM.n1, hM.n2, hM.n3, hM.n4, hM.n13, hM.n14, hM.n15, hM.n16, hM.n17, hM.n26, hM.n51, hM.n52, hM.n53, hM.n54, hM.n55, hM.n56, hM.n57, hM.n58, vrf_s, true_or, or_true, true_and, and_true, and_self, not_false_eq_true, s32, ib7_0, ib7_1, ib7_2, ib7_3, ib7_4, ib7_5, ib7_6, ib3_0, ib3_1, ib3_2, ib4_0, ib4_1, ib4_2, ib4_3, tc0, tc1, tc2, tc3, tc4, tc5, tc6, z1, l30, l31, l32, reduceIte]
        · by_cases h4 : w = 4
          · subst h4; simp only [v236_0, v236_1, v236_2, v236_3_0, v236_3_1, v236_3_2, v236_3_3, v236_3_4, v236_3_5, v236_3_6, v236_3_7, v236_3_8, v236_3_9, v236_3_10, v236_3_d, v236_60, v236_61, v236_64, v236_65, v236_66, v236_69, v236_70, v236_71, v236_74, v236_75, v236_76, v236_77, v236_78, v236_79, v236_80, v236_83, v236_84, v236_85, v236_88, v236_89, v236_90, v236_93, v236_94, v236_95, v236_98, v236_99, v236_100, v236_101, v236_102, v236_104, v236_107, v236_108, v236_109, v236_112, v236_113, v236_114, v236_117, v236_118, v236_121, v236_122, v236_123, v236_124, v236_130, v236_131, v236_132, v236_133, v236_134, v236_137, v236_140, v236_143, v236_146, v236_147, v236_150, v236_151, v236_153, v236_154, v236_155, v236_158, v236_159, e236, hM.f0, hM.f1, hM.f2, hM.f3, hM.f4, hM.f5, hM.f6, hM.f8, hM.f10, hM.f12, hM.f13, hM.f25, hM.f27, hM.f28, hM.f36, hM.f37, hM.f38, hM.f40, hM.k0, hM.k1, hM.k2, hM.k3, hM.k4, hM.k13, hM.k14, hM.k15, hM.k16, hM.k17, hM.k26, hM.k51, hM.k52, hM.k53, hM.k54, hM.k55, hM.k56, hM.k57, hM.k58, hM.n1, hM.n2, hM.n3, hM.n4, hM.n13, hM.n14, hM.n15, hM.n16, hM.n17, hM.n26, hM.n51, hM.n52, hM.n53, hM.n54, hM.n55, hM.n56, hM.n57, hM.n58, vrf_s, true_or, or_true, true_and, and_true, and_self, not_false_eq_true, s42, ib7_0, ib7_1, ib7_2, ib7_3, ib7_4, ib7_5, ib7_6, ib3_0, ib3_1, ib3_2, ib4_0, ib4_1, ib4_2, ib4_3, tc0, tc1, tc2, tc3, tc4, tc5, tc6, z2', h0, h1, h2, h3, reduceIte]
          · by_cases h5 : w = 5
            · subst h5; simp only [v236_0, v236_1, v236_2, v236_3_0, v236_3_1, v236_3_2, v236_3_3, v236_3_4, v236_3_5, v236_3_6, v236_3_7, v236_3_8, v236_3_9, v236_3_10, v236_3_d, v236_60, v236_61, v236_64, v236_65, v236_66, v236_69, v236_70, v236_71, v236_74, v236_75, v236_76, v236_77, v236_78, v236_79, v236_80, v236_83, v236_84, v236_85, v236_88, v236_89, v236_90, v236_93, v236_94, v236_95, v236_98, v236_99, v236_100, v236_101, v236_102, v236_104, v236_107, v236_108, v236_109, v236_112, v236_113, v236_114, v236_117, v236_118, v236_121, v236_122, v236_123, v236_124, v236_130, v236_131, v236_132, v236_133, v236_134, v236_137, v236_140, v236_143, v236_146, v236_147, v236_150, v236_151, v236_153, v236_154, v236_155, v236_158, v236_159, e236, hM.f0, hM.f1, hM.f2, hM.f3, hM.f4, hM.f5, hM.f6, hM.f8, hM.f10, hM.f12, hM.f13, hM.f25, hM.f27, hM.f28, hM.f36, hM.f37, hM.f38, hM.f40, hM.k0, hM.k1, hM.k2, hM.k3, hM.k4, hM.k13, hM.k14, hM.k15, hM.k16, hM.k17, hM.k26, hM.k51, hM.k52, hM.k53, hM.k54, hM.k55, hM.k56, hM.k57, hM.k58, hM.n1, hM.n2, hM.n3, hM.n4, hM.n13, hM.n14, hM.n15, hM.n16, hM.n17, hM.n26, hM.n51, hM.n52, hM.n53, hM.n54, hM.n55, hM.n56, hM.n57, hM.n58, vrf_s, true_or, or_true, true_and, and_true, and_self, not_false_eq_true, s52, ib7_0, ib7_1, ib7_2, ib7_3, ib7_4, ib7_5, ib7_6, ib3_0, ib3_1, ib3_2, ib4_0, ib4_1, ib4_2, ib4_3, tc0, tc1, tc2, tc3, tc4, tc5, tc6, z3, h0, h1, h2, h3, h4, reduceIte]
            · by_cases h6 : w = 6
              · subst h6; simp only [v236_0, v236_1, v236_2, v236_3_0, v236_3_1, v236_3_2, v236_3_3, v236_3_4, v236_3_5, v236_3_6, v236_3_7, v236_3_8, v236_3_9, v236_3_10, v236_3_d, v236_60, v236_61, v236_64, v236_65, v236_66, v236_69, v236_70, v236_71, v236_74, v236_75, v236_76, v236_77, v236_78, v236_79, v236_80, v236_83, v236_84, v236_85, v236_88, v236_89, v236_90, v236_93, v236_94, v236_95, v236_98, v236_99, v236_100, v236_101, v236_102, v236_104, v236_107, v236_108, v236_109, v236_112, v236_113, v236_114, v236_117, v236_118, v236_121, v236_122, v236_123, v236_124, v236_130, v236_131, v236_132, v236_133, v236_134, v236_137, v236_140, v236_143, v236_146, v236_147, v236_150, v236_151, v236_153, v236_154, v236_155, v236_158, v236_159, e236, hM.f0, hM.f1, hM.f2, hM.f3, hM.f4, hM.f5, hM.f6, hM.f8, hM.f10, hM.f12, hM.f13, hM.f25, hM.f27, hM.f28, hM.f36, hM.f37, hM.f38, hM.f40, hM.k0, hM.k1, hM.k2, hM.k3, hM.k4, hM.k13, hM.k14, hM.k15, hM.k16, hM.k17, hM.k26, hM.k51, hM.k52, hM.k53, hM.k54, hM.k55, hM.k56, hM.k57, hM.k58, hM.n1, hM.n2, hM.n3, hM.n4, hM.n13, hM.n14, hM.n15, hM.n16, hM.n17, hM.n26, hM.n51, hM.n52, hM.n53, hM.n54, hM.n55, hM.n56, hM.n57, hM.n58, vrf_s, true_or, or_true, true_and, and_true, and_self, not_false_eq_true, hQ.1, h0, h1, h2, h3, h4, h5, reduceIte]
              · by_cases h7 : w = 7
                · subst h7; simp only [v236_0, v236_1, v236_2, v236_3_0, v236_3_1, v236_3_2, v236_3_3, v236_3_4, v236_3_5, v236_3_6, v236_3_7, v236_3_8, v236_3_9, v236_3_10, v236_3_d, v236_60, v236_61, v236_64, v236_65, v236_66, v236_69, v236_70, v236_71, v236_74, v236_75, v236_76, v236_77, v236_78, v236_79, v236_80, v236_83, v236_84, v236_85, v236_88, v236_89, v236_90, v236_93, v236_94, v236_95, v236_98, v236_99, v236_100, v236_101, v236_102, v236_104, v236_107, v236_108, v236_109, v236_112, v236_113, v236_114, v236_117, v236_118, v236_121, v236_122, v236_123, v236_124, v236_130, v236_131, v236_132, v236_133, v236_134, v236_137, v236_140, v236_143, v236_146, v236_147, v236_150, v236_151, v236_153, v236_154, v236_155, v236_158, v236_159, e236, hM.f0, hM.f1, hM.f2, hM.f3, hM.f4, hM.f5, hM.f6, hM.f8, hM.f10, hM.f12, hM.f13, hM.f25, hM.f27, hM.f28, hM.f36, hM.f37, hM.f38, hM.f40, hM.k0, hM.k1, hM.k2, hM.k3, hM.k4, hM.k13, hM.k14, hM.k15, hM.k16, hM.k17, hM.k26, hM.k51, hM.k52, hM.k53, hM.k54, hM.k55, hM.k56, hM.k57, hM.k58, hM.n1, hM.n2, hM.n3, hM.n4, hM.n13, hM.n14, hM.n15, hM.n16, hM.n17, hM.n26, hM.n51, hM.n52, hM.n53, hM.n54, hM.n55, hM.n56, hM.n57, hM.n58, vrf_s, true_or, or_true, true_and, and_true, and_self, not_false_eq_true, hQ.2.1, h0, h1, h2, h3, h4, h5, h6, reduceIte]
                · by_cases h8 : w = 8
                  · subst h8; simp only [v236_0, v236_1, v236_2, v236_3_0, v236_3_1, v236_3_2, v236_3_3, v236_3_4, v236_3_5, v236_3_6, v236_3_7, v236_3_8, v236_3_9, v236_3_10, v236_3_d, v236_60, v236_61, v236_64, v236_65, v236_66, v236_69, v236_70, v236_71, v236_74, v236_75, v236_76, v236_77, v236_78, v236_79, v236_80, v236_83, v236_84, v236_85, v236_88, v236_89, v236_90, v236_93, v236_94, v236_95, v236_98, v236_99, v236_100, v236_101, v236_102, v236_104, v236_107, v236_108, v236_109, v236_112, v236_113, v236_114, v236_117, v236_118, v236_121, v236_122, v236_123, v236_124, v236_130, v236_131, v236_132, v236_133, v236_134, v236_137, v236_140, v236_143, v236_146, v236_147, v236_150, v236_151, v236_153, v236_154, v236_155, v236_158, v236_159, e236, hM.f0, hM.f1, hM.f2, hM.f3, hM.f4, hM.f5, hM.f6, hM.f8, hM.f10, hM.f12, hM.f13, hM.f25, hM.f27, hM.f28, hM.f36, hM.f37, hM.f38, hM.f40, hM.k0, hM.k1, hM.k2, hM.k3, hM.k4, hM.k13, hM.k14, hM.k15, hM.k16, hM.k17, hM.k26, hM.k51, hM.k52, hM.k53, hM.k54, hM.k55, hM.k56, hM.k57, hM.k58, hM.n1, hM.n2, hM.n3, hM.n4, hM.n13, hM.n14, hM.n15, hM.n16, hM.n17, hM.n26, hM.n51, hM.n52, hM.n53, hM.n54, hM.n55, hM.n56, hM.n57, hM.n58, vrf_s, true_or, or_true, true_and, and_true, and_self, not_false_eq_true, hT.1, h0, h1, h2, h3, h4, h5, h6, h7, reduceIte]
                  · by_cases h9 : w = 9
                    · subst h9; simp only [v236_0, v236_1, v236_2, v236_3_0, v236_3_1, v236_3_2, v236_3_3, v236_3_4, v236_3_5, v236_3_6, v236_3_7, v236_3_8, v236_3_9, v236_3_10, v236_3_d, v236_60, v236_61, v236_64, v236_65, v236_66, v236_69, v236_70, v236_71, v236_74, v236_75, v236_76, v236_77, v236_78, v236_79, v236_80, v236_83, v236_84, v236_85, v236_88, v236_89, v236_90, v236_93, v236_94, v236_95, v236_98, v236_99, v236_100, v236_101, v236_102, v236_104, v236_107, v236_108, v236_109, v236_112, v236_113, v236_114, v236_117, v236_118, v236_121, v236_122, v236_123, v236_124, v236_130, v236_131, v236_132, v236_133, v236_134, v236_137, v236_140, v236_143, v236_146, v236_147, v236_150, v236_151, v236_153, v236_154, v236_155, v236_158, v236_159, e236, hM.f0, hM.f1, hM.f2, hM.f3, hM.f4, hM.f5, hM.f6, hM.f8, hM.f10, hM.f12, hM.f13, hM.f25, hM.f27, hM.f28, hM.f36, hM.f37, hM.f38, hM.f40, hM.k0, hM.k1, hM.k2, hM.k3, hM.k4, hM.k13, hM.k14, hM.k15, hM.k16, hM.k17, hM.k26, hM.k51, hM.k52, hM.k53, hM.k54, hM.k55, hM.k56, hM.k57, hM.k58, hM.n1, hM.n2, hM.n3, hM.n4, hM.n13, hM.n14, hM.n15, hM.n16, hM.n17, hM.n26, hM.n51, hM.n52, hM.n53, hM.n54, hM.n55, hM.n56, hM.n57, hM.n58, vrf_s, true_or, or_true, true_and, and_true, and_self, not_false_eq_true, hQ.2.2, h0, h1, h2, h3, h4, h5, h6, h7, h8, reduceIte]
                    · by_cases ha : w = 10
                      · subst ha
                        have l : ∀ (j t : Nat), t + j = 8 → V 236 101 [.ref m, .int 10, .int (nI (fuN (aH A) t)), .int (nI t)] [] h K = K (some (.int (nI (fuN (aH A) 8)))) h := by
                          intro j
                          induction j with
                          | zero =>
                            intro t hi
                            have e : t = 8 := by omega
                            subst e
                            have e8 : ((8 : Int32) ≤ nI 8) = True := eq_true (by decide)
                            simp only [v236_101, v236_102, v236_104, v236_130, v236_131, e8, reduceIte]
                          | succ j ih =>
                            intro t hi
                            have e8 : ((8 : Int32) ≤ nI t) = False := eq_false (nI_ge (b := 8) (by omega) (by decide))
                            have c1 : (nI t).toNatClampNeg = t := nIc (by omega)
                            have i1 : inb (nI t) 8 = True := nIb (by omega) (by omega)
                            obtain ⟨x1, -⟩ := hS t (by omega)
                            refine Eq.trans (b := V 236 127 [.ref m, .int 10, .int (nI (fuN (aH A) (t + 1))), .int (nI (t + 1))] [] h K) ?_ ((v236_127 _ _ _ _).trans (ih (t + 1) (by omega)))
                            unfold fuN
                            rw [cntN_s]
                            have az : ∀ x : Int32, x + 0 = x := Int32.add_zero
                            rcases shTri (hW.2.2.2.2 t (by omega)) with ⟨g1, g2, g3, g4⟩ | ⟨k, g1, g1', g2, g3, g4⟩ | ⟨k, g1, g1', g1'', g2, g3, g4⟩
                            · rw [g2] at x1
                              simp only [v236_101, v236_102, v236_104, v236_107, v236_108, v236_109, v236_112, v236_113, v236_114, v236_117, v236_118, v236_121, v236_122, v236_123, v236_124, e8, reduceIte, hM.f0, hM.f1, hM.f2, hM.f3, hM.f4, hM.f5, hM.f6, hM.f8, hM.f10, hM.f12, hM.f13, hM.f25, hM.f27, hM.f28, hM.f36, hM.f37, hM.f38, hM.f40, hM.k0, hM.k1, hM.k2, hM.k3, hM.k4, hM.k13, hM.k14, hM.k15, hM.k16, hM.k17, hM.k26, hM.k51, hM.k52, hM.k53, hM.k54, hM.k55, hM.k56, hM.k57, hM.k58, hM.n1, hM.n2, hM.n3, hM.n4, hM.n13, hM.n14, hM.n15, hM.n16, hM.n17, hM.n26, hM.n51, hM.n52, hM.n53, hM.n54, hM.n55, hM.n56, hM.n57, hM.n58, vrf_s, true_or, or_true, true_and, and_true, and_self, not_false_eq_true, c1, i1, x1, q00, q01, q02, q10, q11, q12, q20, q21, q22, g1, Option.isSome_none, Bool.false_eq_true, Nat.add_zero, nI_1, az]
                            · rw [g2] at x1
                              simp only [v236_101, v236_102, v236_104, v236_107, v236_108, v236_109, v236_112, v236_113, v236_114, v236_117, v236_118, v236_121, v236_122, v236_123, v236_124, e8, reduceIte, hM.f0, hM.f1, hM.f2, hM.f3, hM.f4, hM.f5, hM.f6, hM.f8, hM.f10, hM.f12, hM.f13, hM.f25, hM.f27, hM.f28, hM.f36, hM.f37, hM.f38, hM.f40, hM.k0, hM.k1, hM.k2, hM.k3, hM.k4, hM.k13, hM.k14, hM.k15, hM.k16, hM.k17, hM.k26, hM.k51, hM.k52, hM.k53, hM.k54, hM.k55, hM.k56, hM.k57, hM.k58, hM.n1, hM.n2, hM.n3, hM.n4, hM.n13, hM.n14, hM.n15, hM.n16, hM.n17, hM.n26, hM.n51, hM.n52, hM.n53, hM.n54, hM.n55, hM.n56, hM.n57, hM.n58, vrf_s, true_or, or_true, true_and, and_true, and_self, not_false_eq_true, c1, i1, x1, q00, q01, q02, q10, q11, q12, q20, q21, q22, g1, Option.isSome_some, nI_1]
                            · rw [g2] at x1
                              simp only [v236_101, v236_102, v236_104, v236_107, v236_108, v236_109, v236_112, v236_113, v236_114, v236_117, v236_118, v236_121, v236_122, v236_123, v236_124, e8, reduceIte, hM.f0, hM.f1, hM.f2, hM.f3, hM.f4, hM.f5, hM.f6, hM.f8, hM.f10, hM.f12, hM.f13, hM.f25, hM.f27, hM.f28, hM.f36, hM.f37, hM.f38, hM.f40, hM.k0, hM.k1, hM.k2, hM.k3, hM.k4, hM.k13, hM.k14, hM.k15, hM.k16, hM.k17, hM.k26, hM.k51, hM.k52, hM.k53, hM.k54, hM.k55, hM.k56, hM.k57, hM.k58, hM.n1, hM.n2, hM.n3, hM.n4, hM.n13, hM.n14, hM.n15, hM.n16, hM.n17, hM.n26, hM.n51, hM.n52, hM.n53, hM.n54, hM.n55, hM.n56, hM.n57, hM.n58, vrf_s, true_or, or_true, true_and, and_true, and_self, not_false_eq_true, c1, i1, x1, q00, q01, q02, q10, q11, q12, q20, q21, q22, g1, Option.isSome_some, nI_1]
                        simp only [h0, h1, h2, h3, h4, h5, h6, h7, h8, h9, reduceIte]
                        simp only [e236, v236_0, v236_1, v236_2, v236_3_10, v236_99, v236_100]
                        exact l 8 0 rfl
                      · have hd := st_d h0 h1 h2 h3 h4 h5 h6 h7 h8 h9 ha
                        simp only [h0, h1, h2, h3, h4, h5, h6, h7, h8, h9, ha, reduceIte]
                        cases hr : rgI 12 16 w with
                        | none => simp only [v236_0, v236_1, v236_2, v236_3_0, v236_3_1, v236_3_2, v236_3_3, v236_3_4, v236_3_5, v236_3_6, v236_3_7, v236_3_8, v236_3_9, v236_3_10, v236_3_d, v236_60, v236_61, v236_64, v236_65, v236_66, v236_69, v236_70, v236_71, v236_74, v236_75, v236_76, v236_77, v236_78, v236_79, v236_80, v236_83, v236_84, v236_85, v236_88, v236_89, v236_90, v236_93, v236_94, v236_95, v236_98, v236_99, v236_100, v236_101, v236_102, v236_104, v236_107, v236_108, v236_109, v236_112, v236_113, v236_114, v236_117, v236_118, v236_121, v236_122, v236_123, v236_124, v236_130, v236_131, v236_132, v236_133, v236_134, v236_137, v236_140, v236_143, v236_146, v236_147, v236_150, v236_151, v236_153, v236_154, v236_155, v236_158, v236_159, e236, v236_3_d w hd, hM.f0, hM.f1, hM.f2, hM.f3, hM.f4, hM.f5, hM.f6, hM.f8, hM.f10, hM.f12, hM.f13, hM.f25, hM.f27, hM.f28, hM.f36, hM.f37, hM.f38, hM.f40, hM.k0, hM.k1, hM.k2, hM.k3, hM.k4, hM.k13, hM.k14, hM.k15, hM.k16, hM.k17, hM.k26, hM.k51, hM.k52, hM.k53, hM.k54, hM.k55, hM.k56, hM.k57, hM.k58, hM.n1, hM.n2, hM.n3, hM.n4, hM.n13, hM.n14, hM.n15, hM.n16, hM.n17, hM.n26, hM.n51, hM.n52, hM.n53, hM.n54, hM.n55, hM.n56, hM.n57, hM.n58, vrf_s, true_or, or_true, true_and, and_true, and_self, not_false_eq_true, pu_s, pu_n, z2_e0, z2_n0, z2_t, z2_f, c135, rj_0_7, rj_0_4, rj_0_40, rj_0_5, rj_1_99, rj_1_9, rj_0_99, rj_0_9, rj_0_6, rj_0_3, rj_0_255, rj_1_24, rj_3_39, rj_0_1, rj_0_8, rj_0_2, rj_1_30, rj_0_14, rj_12_16, hr, Option.isSome_none, reduceIte]
                        | some k =>
                          obtain ⟨rfl, k1, k2⟩ := rgI_s (by decide) (by decide) hr
                          have c1 : (nI (k - 10)).toNatClampNeg = k - 10 := nIc (by omega)
                          have i1 : inb (nI (k - 10)) 8 = True := nIb (by omega) (by omega)
                          have f := hF (k - 12) (by omega)
                          rw [show 2 + (k - 12) = k - 10 by omega] at f
                          simp only [v236_0, v236_1, v236_2, v236_3_0, v236_3_1, v236_3_2, v236_3_3, v236_3_4, v236_3_5, v236_3_6, v236_3_7, v236_3_8, v236_3_9, v236_3_10, v236_3_d, v236_60, v236_61, v236_64, v236_65, v236_66, v236_69, v236_70, v236_71, v236_74, v236_75, v236_76, v236_77, v236_78, v236_79, v236_80, v236_83, v236_84, v236_85, v236_88, v236_89, v236_90, v236_93, v236_94, v236_95, v236_98, v236_99, v236_100, v236_101, v236_102, v236_104, v236_107, v236_108, v236_109, v236_112, v236_113, v236_114, v236_117, v236_118, v236_121, v236_122, v236_123, v236_124, v236_130, v236_131, v236_132, v236_133, v236_134, v236_137, v236_140, v236_143, v236_146, v236_147, v236_150, v236_151, v236_153, v236_154, v236_155, v236_158, v236_159, e236, v236_3_d _ hd, hM.f0, hM.f1, hM.f2, hM.f3, hM.f4, hM.f5, hM.f6, hM.f8, hM.f10, hM.f12, hM.f13, hM.f25, hM.f27, hM.f28, hM.f36, hM.f37, hM.f38, hM.f40, hM.k0, hM.k1, hM.k2, hM.k3, hM.k4, hM.k13, hM.k14, hM.k15, hM.k16, hM.k17, hM.k26, hM.k51, hM.k52, hM.k53, hM.k54, hM.k55, hM.k56, hM.k57, hM.k58, hM.n1, hM.n2, hM.n3, hM.n4, hM.n13, hM.n14, hM.n15, hM.n16, hM.n17, hM.n26, hM.n51, hM.n52, hM.n53, hM.n54, hM.n55, hM.n56, hM.n57, hM.n58, vrf_s, true_or, or_true, true_and, and_true, and_self, not_false_eq_true, pu_s, pu_n, z2_e0, z2_n0, z2_t, z2_f, c135, rj_0_7, rj_0_4, rj_0_40, rj_0_5, rj_1_99, rj_1_9, rj_0_99, rj_0_9, rj_0_6, rj_0_3, rj_0_255, rj_1_24, rj_3_39, rj_0_1, rj_0_8, rj_0_2, rj_1_30, rj_0_14, rj_12_16, hr, Option.isSome_some, i10, reduceIte, nS10' (show 10 ≤ k by omega), c1, i1, f]
theorem k66 (hC : CL b A h) (hW : WF A) (v : Int32) (kk : ∀ h2, Fr (CW b) h h2 → CL b (oFed A v).1 h2 → K (some (.int (oFed A v).2)) h2) : AM 66 [.ref b, .int v] h K := by
  obtain ⟨⟨cn, kb, f0, f1, f3, f4, f5, f6⟩, hST, hKP, hTR, hTA, ⟨s1, s2, s3⟩, hRF⟩ := id hC
  obtain ⟨a1, a2, a3, a4, a5, a6, a7, a8, a9⟩ := id hTA
  have hp := hW.2.2.1
  unfold oFed at kk
  cases h0 : rgI 0 255 v with
  | none =>
    rw [h0] at kk
    simp only [v66_0, v66_1, v66_2, v66_5, v66_8, v66_11, v66_12, v66_14, v66_17, v66_18, v66_19, v66_22, v66_25, v66_28, v66_31, v66_32, v66_34, v66_37, v66_38, v66_39, v66_42, v66_45, v66_46, v66_49, v66_52, v66_53, v66_54, v66_55, v66_58, v66_59, v66_62, v66_63, v66_64, v66_67, v66_68, v66_71, v66_74, e66, kb, f0, f1, f3, f4, f5, f6, vrf_s, true_and, true_or, or_true, and_self, not_false_eq_true, pu_s, pu_n, z2_e0, z2_n0, z2_t, z2_f, c123, ri_0_7, ri_0_4, ri_0_40, ri_0_5, ri_1_99, ri_1_9, ri_0_99, ri_0_9, ri_0_6, ri_0_3, ri_0_255, ri_1_24, ri_3_39, ri_0_1, ri_0_8, ri_0_2, ri_1_30, ri_0_14, ri_12_16, h0, Option.isSome_none, reduceIte]
    exact k108 (w := 0) hC hW (by decide) (by decide) (fun h2 q2 hC2 => by simp only [pu_s, v66_17]; exact kk h2 q2 hC2)
  | some c =>
    rw [h0] at kk
    dsimp only at kk
    obtain ⟨rfl, -, hc⟩ := rgI_s (by decide) (by decide) h0
    have e8 : (nI (aP A).1 < 250) = ((aP A).1 < 250) := nltN (c := 250) (by omega) (by decide)
    by_cases g : (aP A).1 = 250
    · rw [if_pos g] at kk
      have g2 : ((aP A).1 < 250) = False := eq_false (by omega)
      simp only [v66_0, v66_1, v66_2, v66_5, v66_8, v66_11, v66_12, v66_14, v66_17, v66_18, v66_19, v66_22, v66_25, v66_28, v66_31, v66_32, v66_34, v66_37, v66_38, v66_39, v66_42, v66_45, v66_46, v66_49, v66_52, v66_53, v66_54, v66_55, v66_58, v66_59, v66_62, v66_63, v66_64, v66_67, v66_68, v66_71, v66_74, e66, kb, f0, f1, f3, f4, f5, f6, vrf_s, true_and, true_or, or_true, and_self, not_false_eq_true, pu_s, pu_n, z2_e0, z2_n0, z2_t, z2_f, c123, ri_0_7, ri_0_4, ri_0_40, ri_0_5, ri_1_99, ri_1_9, ri_0_99, ri_0_9, ri_0_6, ri_0_3, ri_0_255, ri_1_24, ri_3_39, ri_0_1, ri_0_8, ri_0_2, ri_1_30, ri_0_14, ri_12_16, h0, Option.isSome_some, i10, reduceIte, a1, a8, e8, g2]
      exact k108 (w := 4) hC hW (by decide) (by decide) (fun h2 q2 hC2 => by simp only [pu_s, v66_37]; exact kk h2 q2 hC2)
    · rw [if_neg g] at kk
      have g2 : ((aP A).1 < 250) = True := eq_true (by omega)
      have c1 : (nI (aP A).1).toNatClampNeg = (aP A).1 := nIc (by omega)
      have i1 : inb (nI (aP A).1) 250 = True := nIb (by omega) (by omega)
      have ne : ∀ x : Int32, gI (pI h (b + 118) (aP A).1 x) (b + 117) 1 = nI (aP A).1 := fun x => by rw [gI_ne (by omega)]; exact a8
      simp only [v66_0, v66_1, v66_2, v66_5, v66_8, v66_11, v66_12, v66_14, v66_17, v66_18, v66_19, v66_22, v66_25, v66_28, v66_31, v66_32, v66_34, v66_37, v66_38, v66_39, v66_42, v66_45, v66_46, v66_49, v66_52, v66_53, v66_54, v66_55, v66_58, v66_59, v66_62, v66_63, v66_64, v66_67, v66_68, v66_71, v66_74, e66, kb, f0, f1, f3, f4, f5, f6, vrf_s, true_and, true_or, or_true, and_self, not_false_eq_true, pu_s, pu_n, z2_e0, z2_n0, z2_t, z2_f, c123, ri_0_7, ri_0_4, ri_0_40, ri_0_5, ri_1_99, ri_1_9, ri_0_99, ri_0_9, ri_0_6, ri_0_3, ri_0_255, ri_1_24, ri_3_39, ri_0_1, ri_0_8, ri_0_2, ri_1_30, ri_0_14, ri_12_16, h0, Option.isSome_some, i10, reduceIte, a1, a2, a4, a5, a8, e8, g2, c1, i1, gI_pJ, gI_pR, gJ_pI, gJ_pR, gR_pI, gR_pJ, gK_pI, gK_pJ, gK_pR, gN_pI, gN_pJ, gN_pR, gX_pI, gX_pJ, gX_pR, gS_pI, gS_pJ, gS_pR, gK_cpI, gN_cpI, gK_cpJ, gN_cpJ, gR_cpI, gR_cpJ, gJ_cpI, gI_cpJ, ne, gI_at, nI_1]
      have q3 : Fr (fun x j => x = b + 118 ∨ (x = b + 117 ∧ j = 1)) h (pI (pI h (b + 118) (aP A).1 (nI c)) (b + 117) 1 (nI ((aP A).1 + 1))) := (Fr.rf.pI (Or.inl rfl)).pI (Or.inr ⟨rfl, rfl⟩)
      refine kk _ (q3.mo (fun x j z => by unfold CW; omega)) (hC.up q3 (fun x j z => by omega) ⟨a1, a2, a3, a4, a5, a6, a7, gI_at _ _ _ _, fun j hj => ?_⟩)
      have hj' : j < (aP A).1 + 1 := hj
      rw [gI_ne (by omega)]
      by_cases e : j = (aP A).1
      · rw [e, gI_at]
        exact (congrArg nI (up_at _ _ _)).symm
      · rw [gI_ne (fun z => e z.2)]
        exact (a9 j (by omega)).trans (congrArg nI (up_ne e).symm)
theorem k159 (hR : MR m u A h) (hW : WF A) (v : Int32) (kk : ∀ (h2 : Hp) (u2 : LU), MG m h h2 → MR m u2 (oFed A v).1 h2 → K (some (.int (oFed A v).2)) h2) : AM 159 [.ref m, .int v] h K := by
  obtain ⟨r0, hM, hpp, hP, hQ, hS, hT, hF, hL⟩ := id hR
  have hp := hW.2.2.1
  unfold oFed at kk
  replace kk := fun h2 => kk h2 u
  cases h0 : rgI 0 255 v with
  | none =>
    rw [h0] at kk
    simp only [v159_0, v159_1, v159_2, v159_3, v159_6, v159_9, v159_12, v159_13, v159_15, v159_18, v159_19, v159_20, v159_23, v159_26, v159_29, v159_30, v159_32, v159_35, v159_36, v159_37, v159_40, v159_41, v159_42, v159_45, v159_46, v159_47, v159_48, v159_51, v159_52, v159_53, v159_54, v159_57, e159, hM.f0, hM.f1, hM.f2, hM.f3, hM.f4, hM.f5, hM.f6, hM.f8, hM.f10, hM.f12, hM.f13, hM.f25, hM.f27, hM.f28, hM.f36, hM.f37, hM.f38, hM.f40, hM.k0, hM.k1, hM.k2, hM.k3, hM.k4, hM.k13, hM.k14, hM.k15, hM.k16, hM.k17, hM.k26, hM.k51, hM.k52, hM.k53, hM.k54, hM.k55, hM.k56, hM.k57, hM.k58, hM.n1, hM.n2, hM.n3, hM.n4, hM.n13, hM.n14, hM.n15, hM.n16, hM.n17, hM.n26, hM.n51, hM.n52, hM.n53, hM.n54, hM.n55, hM.n56, hM.n57, hM.n58, vrf_s, true_or, or_true, true_and, and_true, and_self, not_false_eq_true, pu_s, pu_n, z2_e0, z2_n0, z2_t, z2_f, c135, rj_0_7, rj_0_4, rj_0_40, rj_0_5, rj_1_99, rj_1_9, rj_0_99, rj_0_9, rj_0_6, rj_0_3, rj_0_255, rj_1_24, rj_3_39, rj_0_1, rj_0_8, rj_0_2, rj_1_30, rj_0_14, rj_12_16, h0, Option.isSome_none, reduceIte]
    exact k134 (w := 0) hR hW (by decide) (by decide) (fun h2 q2 hR2 => by simp only [pu_s, v159_18]; exact kk h2 (MG.of q2 (fun a j z => by omega)) hR2)
  | some c =>
    rw [h0] at kk
    dsimp only at kk
    obtain ⟨rfl, -, hc⟩ := rgI_s (by decide) (by decide) h0
    have e8 : (nI (aP A).1 = 250) = ((aP A).1 = 250) := neqN (c := 250) (by omega) (by decide)
    by_cases g : (aP A).1 = 250
    · rw [if_pos g] at kk
      simp only [v159_0, v159_1, v159_2, v159_3, v159_6, v159_9, v159_12, v159_13, v159_15, v159_18, v159_19, v159_20, v159_23, v159_26, v159_29, v159_30, v159_32, v159_35, v159_36, v159_37, v159_40, v159_41, v159_42, v159_45, v159_46, v159_47, v159_48, v159_51, v159_52, v159_53, v159_54, v159_57, e159, hM.f0, hM.f1, hM.f2, hM.f3, hM.f4, hM.f5, hM.f6, hM.f8, hM.f10, hM.f12, hM.f13, hM.f25, hM.f27, hM.f28, hM.f36, hM.f37, hM.f38, hM.f40, hM.k0, hM.k1, hM.k2, hM.k3, hM.k4, hM.k13, hM.k14, hM.k15, hM.k16, hM.k17, hM.k26, hM.k51, hM.k52, hM.k53, hM.k54, hM.k55, hM.k56, hM.k57, hM.k58, hM.n1, hM.n2, hM.n3, hM.n4, hM.n13, hM.n14, hM.n15, hM.n16, hM.n17, hM.n26, hM.n51, hM.n52, hM.n53, hM.n54, hM.n55, hM.n56, hM.n57, hM.n58, vrf_s, true_or, or_true, true_and, and_true, and_self, not_false_eq_true, pu_s, pu_n, z2_e0, z2_n0, z2_t, z2_f, c135, rj_0_7, rj_0_4, rj_0_40, rj_0_5, rj_1_99, rj_1_9, rj_0_99, rj_0_9, rj_0_6, rj_0_3, rj_0_255, rj_1_24, rj_3_39, rj_0_1, rj_0_8, rj_0_2, rj_1_30, rj_0_14, rj_12_16, h0, Option.isSome_some, i10, reduceIte, hT.1, e8, g, not_true_eq_false]
      exact k134 (w := 4) hR hW (by decide) (by decide) (fun h2 q2 hR2 => by simp only [pu_s, v159_35]; exact kk h2 (MG.of q2 (fun a j z => by omega)) hR2)
    · rw [if_neg g] at kk
      have c1 : (nI (aP A).1).toNatClampNeg = (aP A).1 := nIc (by omega)
      have i1 : inb (nI (aP A).1) 250 = True := nIb (by omega) (by omega)
      have ne : ∀ x y : Int32, gI (pI (pI h m 7 x) (m + 15) (aP A).1 y) m 7 = x := fun x y => by rw [gI_ne (by omega), gI_at]
      simp only [v159_0, v159_1, v159_2, v159_3, v159_6, v159_9, v159_12, v159_13, v159_15, v159_18, v159_19, v159_20, v159_23, v159_26, v159_29, v159_30, v159_32, v159_35, v159_36, v159_37, v159_40, v159_41, v159_42, v159_45, v159_46, v159_47, v159_48, v159_51, v159_52, v159_53, v159_54, v159_57, e159, hM.f0, hM.f1, hM.f2, hM.f3, hM.f4, hM.f5, hM.f6, hM.f8, hM.f10, hM.f12, hM.f13, hM.f25, hM.f27, hM.f28, hM.f36, hM.f37, hM.f38, hM.f40, hM.k0, hM.k1, hM.k2, hM.k3, hM.k4, hM.k13, hM.k14, hM.k15, hM.k16, hM.k17, hM.k26, hM.k51, hM.k52, hM.k53, hM.k54, hM.k55, hM.k56, hM.k57, hM.k58, hM.n1, hM.n2, hM.n3, hM.n4, hM.n13, hM.n14, hM.n15, hM.n16, hM.n17, hM.n26, hM.n51, hM.n52, hM.n53, hM.n54, hM.n55, hM.n56, hM.n57, hM.n58, vrf_s, true_or, or_true, true_and, and_true, and_self, not_false_eq_true, pu_s, pu_n, z2_e0, z2_n0, z2_t, z2_f, c135, rj_0_7, rj_0_4, rj_0_40, rj_0_5, rj_1_99, rj_1_9, rj_0_99, rj_0_9, rj_0_6, rj_0_3, rj_0_255, rj_1_24, rj_3_39, rj_0_1, rj_0_8, rj_0_2, rj_1_30, rj_0_14, rj_12_16, h0, Option.isSome_some, i10, reduceIte, hT.1, e8, g, c1, i1, gI_pJ, gI_pR, gJ_pI, gJ_pR, gR_pI, gR_pJ, gK_pI, gK_pJ, gK_pR, gN_pI, gN_pJ, gN_pR, gX_pI, gX_pJ, gX_pR, gS_pI, gS_pJ, gS_pR, gK_cpI, gN_cpI, gK_cpJ, gN_cpJ, gR_cpI, gR_cpJ, gJ_cpI, gI_cpJ, ne, nI_1]
      have q3 : Fr (fun x j => x = m + 15 ∨ (x = m ∧ j = 7)) h (pI (pI h m 7 (nI ((aP A).1 + 1))) (m + 15) (aP A).1 (nI c)) := (Fr.rf.pI (Or.inr ⟨rfl, rfl⟩)).pI (Or.inl rfl)
      refine kk _ (MG.of q3 (fun x j z => by omega)) (hR.up hW q3 (fun x j z => by omega) ⟨?_, fun j hj => ?_⟩)
      · rw [gI_ne (by omega), gI_at]
      · have hj' : j < (aP A).1 + 1 := hj
        by_cases e : j = (aP A).1
        · rw [e, gI_at]
          exact (congrArg nI (up_at _ _ _)).symm
        · rw [gI_ne (fun z => e z.2), gI_ne (by omega)]
          exact (hT.2 j (by omega)).trans (congrArg nI (up_ne e).symm)
theorem k67 (hC : CL b A h) (hW : WF A) (kk : ∀ h2, Fr (CW b) h h2 → CL b (oWip A).1 h2 → K (some (.int (oWip A).2)) h2) : AM 67 [.ref b] h K := by
  obtain ⟨⟨cn, kb, f0, f1, f3, f4, f5, f6⟩, hST, hKP, hTR, hTA, ⟨s1, s2, s3⟩, hRF⟩ := id hC
  obtain ⟨a1, a2, a3, a4, a5, a6, a7, a8, a9⟩ := id hTA
  simp only [v67_0, v67_1, v67_4, v67_7, v67_8, v67_9, v67_12, v67_13, v67_16, v67_17, e67, kb, f0, f1, f3, f4, f5, f6, vrf_s, true_and, true_or, or_true, and_self, not_false_eq_true, pu_s, pu_n, z2_e0, z2_n0, z2_t, z2_f, a1, a8]
  have q3 : Fr (fun x j => x = b + 117 ∧ j = 1) h (pI h (b + 117) 1 0) := Fr.rf.pI ⟨rfl, rfl⟩
  exact kk _ (q3.mo (fun x j z => by unfold CW; omega)) (hC.up q3 (fun x j z => by omega) ⟨a1, a2, a3, a4, a5, a6, a7, gI_at _ _ _ _, fun j hj => absurd hj (Nat.not_lt_zero j)⟩)
theorem k160 (hR : MR m u A h) (hW : WF A) (kk : ∀ (h2 : Hp) (u2 : LU), MG m h h2 → MR m u2 (oWip A).1 h2 → K (some (.int (oWip A).2)) h2) : AM 160 [.ref m] h K := by
  obtain ⟨r0, hM, hpp, hP, hQ, hS, hT, hF, hL⟩ := id hR
  simp only [v160_0, v160_1, v160_4, v160_5, v160_6, v160_7, v160_10, v160_11, e160, hM.f0, hM.f1, hM.f2, hM.f3, hM.f4, hM.f5, hM.f6, hM.f8, hM.f10, hM.f12, hM.f13, hM.f25, hM.f27, hM.f28, hM.f36, hM.f37, hM.f38, hM.f40, hM.k0, hM.k1, hM.k2, hM.k3, hM.k4, hM.k13, hM.k14, hM.k15, hM.k16, hM.k17, hM.k26, hM.k51, hM.k52, hM.k53, hM.k54, hM.k55, hM.k56, hM.k57, hM.k58, hM.n1, hM.n2, hM.n3, hM.n4, hM.n13, hM.n14, hM.n15, hM.n16, hM.n17, hM.n26, hM.n51, hM.n52, hM.n53, hM.n54, hM.n55, hM.n56, hM.n57, hM.n58, vrf_s, true_or, or_true, true_and, and_true, and_self, not_false_eq_true, hT.1]
  have q3 : Fr (fun x j => x = m ∧ j = 7) h (pI h m 7 0) := Fr.rf.pI ⟨rfl, rfl⟩
  exact kk _ u (MG.of q3 (fun x j z => by omega)) (hR.up hW q3 (fun x j z => by omega) ⟨gI_at _ _ _ _, fun j hj => absurd hj (Nat.not_lt_zero j)⟩)
end
