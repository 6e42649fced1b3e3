/-! SHELVES on the reference's side -/
theorem q00 : (nI 0 = 0) = True := eq_true rfl
theorem q01 : (nI 0 = 1) = False := eq_false (by decide)
theorem q02 : (nI 0 = 2) = False := eq_false (by decide)
theorem q10 : (nI 1 = 0) = False := eq_false (by decide)
theorem q11 : (nI 1 = 1) = True := eq_true rfl
theorem q12 : (nI 1 = 2) = False := eq_false (by decide)
theorem q20 : (nI 2 = 0) = False := eq_false (by decide)
theorem q21 : (nI 2 = 1) = False := eq_false (by decide)
theorem q22 : (nI 2 = 2) = True := eq_true rfl
theorem shTri {n : Nat} {e : XH} (h : shOk n e) : (e.1 = none ∧ shC e.1 = 0 ∧ isRw e.1 = false ∧ isTh e.1 = false) ∨ (∃ k, e.1 = some k ∧ k ≤ 4 ∧ shC e.1 = 1 ∧ isRw e.1 = true ∧ isTh e.1 = false) ∨ (∃ k, e.1 = some k ∧ 10 ≤ k ∧ k < 10 + n ∧ shC e.1 = 2 ∧ isRw e.1 = false ∧ isTh e.1 = true) := by
  obtain ⟨-, h2⟩ := h
  cases he : e.1 with
  | none => exact Or.inl ⟨rfl, rfl, rfl, rfl⟩
  | some k =>
    rcases h2 k he with g | g
    · exact Or.inr (Or.inl ⟨k, rfl, g, if_pos g, decide_eq_true g, decide_eq_false (by omega)⟩)
    · exact Or.inr (Or.inr ⟨k, rfl, g.1, g.2, if_neg (by omega), decide_eq_false (by omega), decide_eq_true g.1⟩)
section
variable {m : Nat} {u : LU} {A : XA} {sh : Nat → XH} {h h1 : Hp} {K : Option Value → Hp → Prop}
theorem MHS.put (hS : MHS m sh h) {i : Nat} {e : XH} (w : Fr (fun x j => ((x = m + 1 ∨ x = m + 2 ∨ x = m + 3 ∨ x = m + 14) ∧ j = i) ∨ x = m + (5 + i)) h h1) (hi : i < 8) (e1 : gI h1 (m + 1) i = nI (shC e.1)) (e2 : ∀ k, e.1 = some k → (k ≤ 4 → gI h1 (m + 2) i = nI k) ∧ (10 ≤ k → gI h1 (m + 14) i = nI (k - 10))) (e3 : gI h1 (m + 3) i = nI e.2.1) (e4 : ∀ j, j < 40 → gJ h1 (m + (5 + i)) j = e.2.2 j) : MHS m (up sh i e) h1 := fun x hx => by
  by_cases g : x = i
  · subst g
    rw [up_at]
    exact ⟨e1, e2, e3, e4⟩
  · rw [up_ne g]
    obtain ⟨y1, y2, y3, y4⟩ := hS x hx
    exact ⟨(w.i (fun z => by omega)).trans y1, fun k hk => ⟨fun hk2 => (w.i (fun z => by omega)).trans ((y2 k hk).1 hk2), fun hk2 => (w.i (fun z => by omega)).trans ((y2 k hk).2 hk2)⟩, (w.i (fun z => by omega)).trans y3, fun j hj => (w.j (fun z => by omega)).trans (y4 j hj)⟩
theorem k140 (hR : MR m u A h) (hW : WF A) (s : Int32) (kn : rrC A s = none → K (some (.int 0)) h) (ks : ∀ (w : Nat) (h2 : Hp), rrC A s = some w → Fr (fun a _ => a = m + 16) h h2 → MR m u (rfu A w) h2 → K (some (.int (-2 - nI w))) h2) : AM 140 [.ref m, .int s] h K := by
  obtain ⟨r0, hM, hpp, hP, hQ, hS, hT, hF, hL⟩ := id hR
  unfold rrC at kn ks
  cases hs : rgI 0 7 s with
  | none =>
    rw [hs] at kn ks
    simp only [v140_0, v140_1, v140_2, v140_3, v140_6, v140_9, v140_12, v140_13, v140_15, v140_18, v140_19, v140_20, v140_23, v140_24, v140_25, v140_26, v140_29, v140_30, v140_32, v140_35, v140_36, v140_37, v140_40, v140_41, v140_42, v140_45, v140_46, v140_48, v140_51, v140_54, v140_55, e140, hM.f0, hM.f1, hM.f2, hM.f3, hM.f4, hM.f5, hM.f6, hM.f8, hM.f10, hM.f12, hM.f13, hM.f25, hM.f27, hM.f28, hM.f36, hM.f37, hM.f38, hM.f40, hM.k0, hM.k1, hM.k2, hM.k3, hM.k4, hM.k13, hM.k14, hM.k15, hM.k16, hM.k17, hM.k26, hM.k51, hM.k52, hM.k53, hM.k54, hM.k55, hM.k56, hM.k57, hM.k58, hM.n1, hM.n2, hM.n3, hM.n4, hM.n13, hM.n14, hM.n15, hM.n16, hM.n17, hM.n26, hM.n51, hM.n52, hM.n53, hM.n54, hM.n55, hM.n56, hM.n57, hM.n58, vrf_s, true_or, or_true, true_and, and_true, and_self, not_false_eq_true, pu_s, pu_n, z2_e0, z2_n0, z2_t, z2_f, c135, rj_0_7, rj_0_4, rj_0_40, rj_0_5, rj_1_99, rj_1_9, rj_0_99, rj_0_9, rj_0_6, rj_0_3, rj_0_255, rj_1_24, rj_3_39, rj_0_1, rj_0_8, rj_0_2, rj_1_30, rj_0_14, rj_12_16, hs, Option.isSome_none, reduceIte]
    exact k134 (w := 0) hR hW (by decide) (by decide) (fun h2 q2 hR2 => by simp only [pu_s, v140_18]; exact ks 0 h2 rfl q2 hR2)
  | some i =>
    rw [hs] at kn ks
    obtain ⟨rfl, -, hi⟩ := rgI_s (by decide) (by decide) hs
    obtain ⟨y1, y2, y3, y4⟩ := hS i (by omega)
    have c1 : (nI i).toNatClampNeg = i := nIc (by omega)
    have i1 : inb (nI i) 8 = True := nIb (by omega) (by omega)
    dsimp only at kn ks
    rcases shTri (hW.2.2.2.2 i (by omega)) with ⟨g1, g2, g3, g4⟩ | ⟨k, g1, g1', g2, g3, g4⟩ | ⟨k, g1, g1', g1'', g2, g3, g4⟩
    · rw [g2] at y1
      simp only [g3, g4, Bool.false_eq_true, reduceIte] at kn ks
      simp only [v140_0, v140_1, v140_2, v140_3, v140_6, v140_9, v140_12, v140_13, v140_15, v140_18, v140_19, v140_20, v140_23, v140_24, v140_25, v140_26, v140_29, v140_30, v140_32, v140_35, v140_36, v140_37, v140_40, v140_41, v140_42, v140_45, v140_46, v140_48, v140_51, v140_54, v140_55, e140, hM.f0, hM.f1, hM.f2, hM.f3, hM.f4, hM.f5, hM.f6, hM.f8, hM.f10, hM.f12, hM.f13, hM.f25, hM.f27, hM.f28, hM.f36, hM.f37, hM.f38, hM.f40, hM.k0, hM.k1, hM.k2, hM.k3, hM.k4, hM.k13, hM.k14, hM.k15, hM.k16, hM.k17, hM.k26, hM.k51, hM.k52, hM.k53, hM.k54, hM.k55, hM.k56, hM.k57, hM.k58, hM.n1, hM.n2, hM.n3, hM.n4, hM.n13, hM.n14, hM.n15, hM.n16, hM.n17, hM.n26, hM.n51, hM.n52, hM.n53, hM.n54, hM.n55, hM.n56, hM.n57, hM.n58, vrf_s, true_or, or_true, true_and, and_true, and_self, not_false_eq_true, pu_s, pu_n, z2_e0, z2_n0, z2_t, z2_f, c135, rj_0_7, rj_0_4, rj_0_40, rj_0_5, rj_1_99, rj_1_9, rj_0_99, rj_0_9, rj_0_6, rj_0_3, rj_0_255, rj_1_24, rj_3_39, rj_0_1, rj_0_8, rj_0_2, rj_1_30, rj_0_14, rj_12_16, hs, Option.isSome_some, i10, reduceIte, c1, i1, y1, q00, q01, q02, q10, q11, q12, q20, q21, q22]
      exact k134 (w := 2) hR hW (by decide) (by decide) (fun h2 q2 hR2 => by simp only [pu_s, v140_51, v140_55]; exact ks 2 h2 rfl q2 hR2)
    · rw [g2] at y1
      simp only [g3, g4, Bool.false_eq_true, reduceIte] at kn ks
      simp only [v140_0, v140_1, v140_2, v140_3, v140_6, v140_9, v140_12, v140_13, v140_15, v140_18, v140_19, v140_20, v140_23, v140_24, v140_25, v140_26, v140_29, v140_30, v140_32, v140_35, v140_36, v140_37, v140_40, v140_41, v140_42, v140_45, v140_46, v140_48, v140_51, v140_54, v140_55, e140, hM.f0, hM.f1, hM.f2, hM.f3, hM.f4, hM.f5, hM.f6, hM.f8, hM.f10, hM.f12, hM.f13, hM.f25, hM.f27, hM.f28, hM.f36, hM.f37, hM.f38, hM.f40, hM.k0, hM.k1, hM.k2, hM.k3, hM.k4, hM.k13, hM.k14, hM.k15, hM.k16, hM.k17, hM.k26, hM.k51, hM.k52, hM.k53, hM.k54, hM.k55, hM.k56, hM.k57, hM.k58, hM.n1, hM.n2, hM.n3, hM.n4, hM.n13, hM.n14, hM.n15, hM.n16, hM.n17, hM.n26, hM.n51, hM.n52, hM.n53, hM.n54, hM.n55, hM.n56, hM.n57, hM.n58, vrf_s, true_or, or_true, true_and, and_true, and_self, not_false_eq_true, pu_s, pu_n, z2_e0, z2_n0, z2_t, z2_f, c135, rj_0_7, rj_0_4, rj_0_40, rj_0_5, rj_1_99, rj_1_9, rj_0_99, rj_0_9, rj_0_6, rj_0_3, rj_0_255, rj_1_24, rj_3_39, rj_0_1, rj_0_8, rj_0_2, rj_1_30, rj_0_14, rj_12_16, hs, Option.isSome_some, i10, reduceIte, c1, i1, y1, q00, q01, q02, q10, q11, q12, q20, q21, q22]
      exact kn trivial
    · rw [g2] at y1
      simp only [g3, g4, reduceIte] at kn ks
      simp only [v140_0, v140_1, v140_2, v140_3, v140_6, v140_9, v140_12, v140_13, v140_15, v140_18, v140_19, v140_20, v140_23, v140_24, v140_25, v140_26, v140_29, v140_30, v140_32, v140_35, v140_36, v140_37, v140_40, v140_41, v140_42, v140_45, v140_46, v140_48, v140_51, v140_54, v140_55, e140, hM.f0, hM.f1, hM.f2, hM.f3, hM.f4, hM.f5, hM.f6, hM.f8, hM.f10, hM.f12, hM.f13, hM.f25, hM.f27, hM.f28, hM.f36, hM.f37, hM.f38, hM.f40, hM.k0, hM.k1, hM.k2, hM.k3, hM.k4, hM.k13, hM.k14, hM.k15, hM.k16, hM.k17, hM.k26, hM.k51, hM.k52, hM.k53, hM.k54, hM.k55, hM.k56, hM.k57, hM.k58, hM.n1, hM.n2, hM.n3, hM.n4, hM.n13, hM.n14, hM.n15, hM.n16, hM.n17, hM.n26, hM.n51, hM.n52, hM.n53, hM.n54, hM.n55, hM.n56, hM.n57, hM.n58, vrf_s, true_or, or_true, true_and, and_true, and_self, not_false_eq_true, pu_s, pu_n, z2_e0, z2_n0, z2_t, z2_f, c135, rj_0_7, rj_0_4, rj_0_40, rj_0_5, rj_1_99, rj_1_9, rj_0_99, rj_0_9, rj_0_6, rj_0_3, rj_0_255, rj_1_24, rj_3_39, rj_0_1, rj_0_8, rj_0_2, rj_1_30, rj_0_14, rj_12_16, hs, Option.isSome_some, i10, reduceIte, c1, i1, y1, q00, q01, q02, q10, q11, q12, q20, q21, q22, not_true_eq_false]
      exact k134 (w := 1) hR hW (by decide) (by decide) (fun h2 q2 hR2 => by simp only [pu_s, v140_35]; exact ks 1 h2 rfl q2 hR2)
theorem c139 {k : Nat} (hk : k ≤ 4) (v : Int64) : AM 139 [.int (nI k), .long v] h K = K (some (.long (fitJ k v))) h := by
  have : k = 0 ∨ k = 1 ∨ k = 2 ∨ k = 3 ∨ k = 4 := by omega
  rcases this with rfl | rfl | rfl | rfl | rfl
  · show AM 139 [.int 0, .long v] h K = _
    simp only [v139_0, v139_1_0, v139_1_1, v139_1_2, v139_1_3, v139_1_d, v139_32, v139_33, v139_34, v139_35, v139_36, v139_37, v139_38, v139_39, v139_40, v139_41, v139_42, v139_43, v139_44, v139_45, v139_46, v139_47, v139_48, v139_49, v139_50, v139_51, v139_54, v139_55, v139_58, v139_59, e139]
    rfl
  · show AM 139 [.int 1, .long v] h K = _
    simp only [v139_0, v139_1_0, v139_1_1, v139_1_2, v139_1_3, v139_1_d, v139_32, v139_33, v139_34, v139_35, v139_36, v139_37, v139_38, v139_39, v139_40, v139_41, v139_42, v139_43, v139_44, v139_45, v139_46, v139_47, v139_48, v139_49, v139_50, v139_51, v139_54, v139_55, v139_58, v139_59, e139]
    rfl
  · show AM 139 [.int 2, .long v] h K = _
    simp only [v139_0, v139_1_0, v139_1_1, v139_1_2, v139_1_3, v139_1_d, v139_32, v139_33, v139_34, v139_35, v139_36, v139_37, v139_38, v139_39, v139_40, v139_41, v139_42, v139_43, v139_44, v139_45, v139_46, v139_47, v139_48, v139_49, v139_50, v139_51, v139_54, v139_55, v139_58, v139_59, e139]
    rfl
  · show AM 139 [.int 3, .long v] h K = _
    simp only [v139_0, v139_1_0, v139_1_1, v139_1_2, v139_1_3, v139_1_d, v139_32, v139_33, v139_34, v139_35, v139_36, v139_37, v139_38, v139_39, v139_40, v139_41, v139_42, v139_43, v139_44, v139_45, v139_46, v139_47, v139_48, v139_49, v139_50, v139_51, v139_54, v139_55, v139_58, v139_59, e139]
    rfl
  · show AM 139 [.int 4, .long v] h K = _
    have hd : (4 : Int32).toInt < 0 ∨ 3 < (4 : Int32).toInt := by decide
    simp only [v139_0, v139_1_0, v139_1_1, v139_1_2, v139_1_3, v139_1_d, v139_32, v139_33, v139_34, v139_35, v139_36, v139_37, v139_38, v139_39, v139_40, v139_41, v139_42, v139_43, v139_44, v139_45, v139_46, v139_47, v139_48, v139_49, v139_50, v139_51, v139_54, v139_55, v139_58, v139_59, e139, v139_1_d 4 hd, lg_eq]
    by_cases g : v = 0
    · simp [fitJ, g]
    · simp [fitJ, g]
theorem c138_l (hM : MSh m h) {i : Nat} (hi : i ≤ 7) (v2 v3 : Value) (kk : ∀ h2, Fr (fun x _ => x = m + (5 + i)) h h2 → (∀ j, j < 40 → gJ h2 (m + (5 + i)) j = 0) → K (some (.int 1)) h2) :
    ∀ (j x : Nat) (h1 : Hp), x + j = 40 → Fr (fun x _ => x = m + (5 + i)) h h1 → (∀ j, j < x → gJ h1 (m + (5 + i)) j = 0) → V 138 67 [.ref m, .int (nI i), v2, v3, .int (nI x)] [] h1 K := by
  intro j
  induction j with
  | zero =>
    intro x h1 hx hf hz
    have e : x = 40 := by omega
    subst e
    have e8 : ((40 : Int32) ≤ nI 40) = True := eq_true (by decide)
    simp only [v138_67, v138_69, v138_71, v138_90, v138_91, e8, reduceIte]
    exact kk h1 hf hz
  | succ j ih =>
    intro x h1 hx hf hz
    have e8 : ((40 : Int32) ≤ nI x) = False := eq_false (nI_ge (b := 40) (by omega) (by decide))
    have c1 : (nI i).toNatClampNeg = i := nIc (by omega)
    have i1 : inb (nI i) 8 = True := nIb (by omega) (by omega)
    have c2 : (nI x).toNatClampNeg = x := nIc (by omega)
    have i2 : inb (nI x) 40 = True := nIb (by omega) (by omega)
    have hM1 : MSh m h1 := hM.fr hf (fun a j z => ⟨by omega, fun v => by omega⟩)
    obtain ⟨w1, w2, w3⟩ := hM1.rw (show i < 8 by omega)
    simp only [v138_67, v138_69, v138_71, v138_74, v138_75, v138_78, v138_79, v138_80, v138_82, v138_83, v138_84, e8, reduceIte, hM1.k0, hM1.f3, hM1.k4, hM1.n4, w1, w2, w3, c1, i1, c2, i2, vrf_s, true_and, or_true, and_self, nI_1]
    rw [v138_87]
    refine ih (x + 1) _ (by omega) (hf.pJ rfl) (fun y hy => ?_)
    by_cases e : y = x
    · subst e; exact gJ_at _ _ _ _
    · rw [gJ_ne (fun z => e z.2)]
      exact hz y (by omega)
theorem k138 (hR : MR m u A h) (hW : WF A) (s t n : Int32) (kk : ∀ (h2 : Hp) (u2 : LU), MG m h h2 → MR m u2 (oRow A s t n).1 h2 → K (some (.int (oRow A s t n).2)) h2) : AM 138 [.ref m, .int s, .int t, .int n] h K := by
  obtain ⟨r0, hM, hpp, hP, hQ, hS, hT, hF, hL⟩ := id hR
  unfold oRow at kk
  replace kk := fun h2 => kk h2 u
  cases hs : rgI 0 7 s with
  | none =>
    rw [hs] at kk
    simp only [v138_0, v138_1, v138_2, v138_3, v138_6, v138_9, v138_12, v138_13, v138_14, v138_15, v138_18, v138_21, v138_24, v138_25, v138_26, v138_27, v138_30, v138_33, v138_36, v138_37, v138_39, v138_42, v138_43, v138_44, v138_47, v138_48, v138_49, v138_50, v138_51, v138_54, v138_55, v138_56, v138_57, v138_58, v138_61, v138_62, v138_63, v138_64, v138_65, v138_67, v138_69, v138_71, v138_74, v138_75, v138_78, v138_79, v138_80, v138_82, v138_83, v138_84, v138_87, v138_90, v138_91, e138, hM.f0, hM.f1, hM.f2, hM.f3, hM.f4, hM.f5, hM.f6, hM.f8, hM.f10, hM.f12, hM.f13, hM.f25, hM.f27, hM.f28, hM.f36, hM.f37, hM.f38, hM.f40, hM.k0, hM.k1, hM.k2, hM.k3, hM.k4, hM.k13, hM.k14, hM.k15, hM.k16, hM.k17, hM.k26, hM.k51, hM.k52, hM.k53, hM.k54, hM.k55, hM.k56, hM.k57, hM.k58, hM.n1, hM.n2, hM.n3, hM.n4, hM.n13, hM.n14, hM.n15, hM.n16, hM.n17, hM.n26, hM.n51, hM.n52, hM.n53, hM.n54, hM.n55, hM.n56, hM.n57, hM.n58, vrf_s, true_or, or_true, true_and, and_true, and_self, not_false_eq_true, pu_s, pu_n, z2_e0, z2_n0, z2_t, z2_f, c135, rj_0_7, rj_0_4, rj_0_40, rj_0_5, rj_1_99, rj_1_9, rj_0_99, rj_0_9, rj_0_6, rj_0_3, rj_0_255, rj_1_24, rj_3_39, rj_0_1, rj_0_8, rj_0_2, rj_1_30, rj_0_14, rj_12_16, hs, Option.isSome_none, reduceIte]
    exact k134 (w := 0) hR hW (by decide) (by decide) (fun h2 q2 hR2 => by simp only [pu_s, v138_42]; exact kk h2 (MG.of q2 (fun a j z => by omega)) hR2)
  | some i =>
    rw [hs] at kk
    cases ht : rgI 0 4 t with
    | none =>
      rw [ht] at kk
      simp only [v138_0, v138_1, v138_2, v138_3, v138_6, v138_9, v138_12, v138_13, v138_14, v138_15, v138_18, v138_21, v138_24, v138_25, v138_26, v138_27, v138_30, v138_33, v138_36, v138_37, v138_39, v138_42, v138_43, v138_44, v138_47, v138_48, v138_49, v138_50, v138_51, v138_54, v138_55, v138_56, v138_57, v138_58, v138_61, v138_62, v138_63, v138_64, v138_65, v138_67, v138_69, v138_71, v138_74, v138_75, v138_78, v138_79, v138_80, v138_82, v138_83, v138_84, v138_87, v138_90, v138_91, e138, hM.f0, hM.f1, hM.f2, hM.f3, hM.f4, hM.f5, hM.f6, hM.f8, hM.f10, hM.f12, hM.f13, hM.f25, hM.f27, hM.f28, hM.f36, hM.f37, hM.f38, hM.f40, hM.k0, hM.k1, hM.k2, hM.k3, hM.k4, hM.k13, hM.k14, hM.k15, hM.k16, hM.k17, hM.k26, hM.k51, hM.k52, hM.k53, hM.k54, hM.k55, hM.k56, hM.k57, hM.k58, hM.n1, hM.n2, hM.n3, hM.n4, hM.n13, hM.n14, hM.n15, hM.n16, hM.n17, hM.n26, hM.n51, hM.n52, hM.n53, hM.n54, hM.n55, hM.n56, hM.n57, hM.n58, vrf_s, true_or, or_true, true_and, and_true, and_self, not_false_eq_true, pu_s, pu_n, z2_e0, z2_n0, z2_t, z2_f, c135, rj_0_7, rj_0_4, rj_0_40, rj_0_5, rj_1_99, rj_1_9, rj_0_99, rj_0_9, rj_0_6, rj_0_3, rj_0_255, rj_1_24, rj_3_39, rj_0_1, rj_0_8, rj_0_2, rj_1_30, rj_0_14, rj_12_16, hs, ht, Option.isSome_none, Option.isSome_some, i10, reduceIte]
      exact k134 (w := 0) hR hW (by decide) (by decide) (fun h2 q2 hR2 => by simp only [pu_s, v138_42]; exact kk h2 (MG.of q2 (fun a j z => by omega)) hR2)
    | some t' =>
      rw [ht] at kk
      cases hn : rgI 0 40 n with
      | none =>
        rw [hn] at kk
        simp only [v138_0, v138_1, v138_2, v138_3, v138_6, v138_9, v138_12, v138_13, v138_14, v138_15, v138_18, v138_21, v138_24, v138_25, v138_26, v138_27, v138_30, v138_33, v138_36, v138_37, v138_39, v138_42, v138_43, v138_44, v138_47, v138_48, v138_49, v138_50, v138_51, v138_54, v138_55, v138_56, v138_57, v138_58, v138_61, v138_62, v138_63, v138_64, v138_65, v138_67, v138_69, v138_71, v138_74, v138_75, v138_78, v138_79, v138_80, v138_82, v138_83, v138_84, v138_87, v138_90, v138_91, e138, hM.f0, hM.f1, hM.f2, hM.f3, hM.f4, hM.f5, hM.f6, hM.f8, hM.f10, hM.f12, hM.f13, hM.f25, hM.f27, hM.f28, hM.f36, hM.f37, hM.f38, hM.f40, hM.k0, hM.k1, hM.k2, hM.k3, hM.k4, hM.k13, hM.k14, hM.k15, hM.k16, hM.k17, hM.k26, hM.k51, hM.k52, hM.k53, hM.k54, hM.k55, hM.k56, hM.k57, hM.k58, hM.n1, hM.n2, hM.n3, hM.n4, hM.n13, hM.n14, hM.n15, hM.n16, hM.n17, hM.n26, hM.n51, hM.n52, hM.n53, hM.n54, hM.n55, hM.n56, hM.n57, hM.n58, vrf_s, true_or, or_true, true_and, and_true, and_self, not_false_eq_true, pu_s, pu_n, z2_e0, z2_n0, z2_t, z2_f, c135, rj_0_7, rj_0_4, rj_0_40, rj_0_5, rj_1_99, rj_1_9, rj_0_99, rj_0_9, rj_0_6, rj_0_3, rj_0_255, rj_1_24, rj_3_39, rj_0_1, rj_0_8, rj_0_2, rj_1_30, rj_0_14, rj_12_16, hs, ht, hn, Option.isSome_none, Option.isSome_some, i10, reduceIte]
        exact k134 (w := 0) hR hW (by decide) (by decide) (fun h2 q2 hR2 => by simp only [pu_s, v138_42]; exact kk h2 (MG.of q2 (fun a j z => by omega)) hR2)
      | some n' =>
        rw [hn] at kk
        obtain ⟨es, -, hi⟩ := rgI_s (by decide) (by decide) hs
        obtain ⟨et, -, ht4⟩ := rgI_s (by decide) (by decide) ht
        obtain ⟨en, -, hn40⟩ := rgI_s (by decide) (by decide) hn
        have c1 : (nI i).toNatClampNeg = i := nIc (by omega)
        have i1 : inb (nI i) 8 = True := nIb (by omega) (by omega)
        simp only [v138_0, v138_1, v138_2, v138_3, v138_6, v138_9, v138_12, v138_13, v138_14, v138_15, v138_18, v138_21, v138_24, v138_25, v138_26, v138_27, v138_30, v138_33, v138_36, v138_37, v138_39, v138_42, v138_43, v138_44, v138_47, v138_48, v138_49, v138_50, v138_51, v138_54, v138_55, v138_56, v138_57, v138_58, v138_61, v138_62, v138_63, v138_64, v138_65, v138_69, v138_71, v138_74, v138_75, v138_78, v138_79, v138_80, v138_82, v138_83, v138_84, v138_90, v138_91, e138, hM.f0, hM.f1, hM.f2, hM.f3, hM.f4, hM.f5, hM.f6, hM.f8, hM.f10, hM.f12, hM.f13, hM.f25, hM.f27, hM.f28, hM.f36, hM.f37, hM.f38, hM.f40, hM.k0, hM.k1, hM.k2, hM.k3, hM.k4, hM.k13, hM.k14, hM.k15, hM.k16, hM.k17, hM.k26, hM.k51, hM.k52, hM.k53, hM.k54, hM.k55, hM.k56, hM.k57, hM.k58, hM.n1, hM.n2, hM.n3, hM.n4, hM.n13, hM.n14, hM.n15, hM.n16, hM.n17, hM.n26, hM.n51, hM.n52, hM.n53, hM.n54, hM.n55, hM.n56, hM.n57, hM.n58, vrf_s, true_or, or_true, true_and, and_true, and_self, not_false_eq_true, pu_s, pu_n, z2_e0, z2_n0, z2_t, z2_f, c135, rj_0_7, rj_0_4, rj_0_40, rj_0_5, rj_1_99, rj_1_9, rj_0_99, rj_0_9, rj_0_6, rj_0_3, rj_0_255, rj_1_24, rj_3_39, rj_0_1, rj_0_8, rj_0_2, rj_1_30, rj_0_14, rj_12_16, hs, ht, hn, Option.isSome_some, i10, reduceIte, gI_pJ, gI_pR, gJ_pI, gJ_pR, gR_pI, gR_pJ, gK_pI, gK_pJ, gK_pR, gN_pI, gN_pJ, gN_pR, gX_pI, gX_pJ, gX_pR, gS_pI, gS_pJ, gS_pR, gK_cpI, gN_cpI, gK_cpJ, gN_cpJ, gR_cpI, gR_cpJ, gJ_cpI, gI_cpJ]
        subst es et en
        simp only [c1, i1, and_true, true_and]
        have q0 : Fr (fun x j => ((x = m + 1 ∨ x = m + 2 ∨ x = m + 3 ∨ x = m + 14) ∧ j = i) ∨ x = m + (5 + i)) h (pI (pI (pI h (m + 1) i 1) (m + 2) i (nI t')) (m + 3) i (nI n')) := ((Fr.rf.pI (Or.inl ⟨by omega, rfl⟩)).pI (Or.inl ⟨by omega, rfl⟩)).pI (Or.inl ⟨by omega, rfl⟩)
        have hM1 := hM.fr q0 (fun a j z => ⟨by omega, fun v => by omega⟩)
        refine c138_l hM1 (by omega) _ _ (fun h2 q2 hz => ?_) 40 0 _ (Nat.zero_add _) Fr.rf (fun j hj => absurd hj (Nat.not_lt_zero j))
        have q3 := q0.tr (q2.mo (fun x j z => Or.inr z))
        refine kk h2 (MG.of q3 (fun a j z => by omega)) (hR.uh hW q3 (fun a j z => by omega) (hS.put q3 (by omega) ?_ (fun k hk => ?_) ?_ hz))
        · rw [q2.i (by omega), gI_ne (by omega), gI_ne (by omega), gI_at]
          show (1 : Int32) = nI (if t' ≤ 4 then 1 else 2)
          rw [if_pos ht4]
          rfl
        · cases hk
          refine ⟨fun _ => ?_, fun z => by omega⟩
          rw [q2.i (by omega), gI_ne (by omega), gI_at]
        · rw [q2.i (by omega), gI_at]
theorem k141 (hR : MR m u A h) (hW : WF A) (s i : Int32) (v : Int64) (kk : ∀ (h2 : Hp) (u2 : LU), MG m h h2 → MR m u2 (oSet A s i v).1 h2 → K (some (.int (oSet A s i v).2)) h2) : AM 141 [.ref m, .int s, .int i, .long v] h K := by
  obtain ⟨r0, hM, hpp, hP, hQ, hS, hT, hF, hL⟩ := id hR
  unfold oSet at kk
  replace kk := fun h2 => kk h2 u
  simp only [e141, v141_0, v141_1, v141_2, hM.k0, true_and]
  refine k140 hR hW s (fun hn => ?_) (fun w h2 hs q2 hR2 => ?_)
  · rw [hn] at kk
    obtain ⟨s', es, rfl, hs7, k, hk, hk4⟩ := rrC_n hn
    obtain ⟨y1, y2, y3, y4⟩ := hS s' (by omega)
    obtain ⟨w1, w2, w3⟩ := hM.rw (show s' < 8 by omega)
    have e2 := (y2 k hk).1 hk4
    have c1 : (nI s').toNatClampNeg = s' := nIc (by omega)
    have i1 : inb (nI s') 8 = True := nIb (by omega) (by omega)
    have hz := (hW.2.2.2.2 s' (by omega)).1
    have ti := thI_J (n := (aH A s').2.1) (by omega) i
    rw [c1] at kk
    cases hi : thI (aH A s').2.1 i with
    | none =>
      rw [hi] at kk ti
      simp only [v141_0, v141_1, v141_2, v141_5, v141_7, v141_9, v141_12, v141_14, v141_15, v141_16, v141_17, v141_18, v141_19, v141_22, v141_23, v141_24, v141_25, v141_26, v141_27, v141_30, v141_33, v141_34, v141_36, v141_39, v141_40, v141_41, v141_44, v141_45, v141_46, v141_47, v141_48, v141_51, v141_52, v141_53, v141_54, v141_57, v141_58, v141_59, hM.f0, hM.f1, hM.f2, hM.f3, hM.f4, hM.f5, hM.f6, hM.f8, hM.f10, hM.f12, hM.f13, hM.f25, hM.f27, hM.f28, hM.f36, hM.f37, hM.f38, hM.f40, hM.k0, hM.k1, hM.k2, hM.k3, hM.k4, hM.k13, hM.k14, hM.k15, hM.k16, hM.k17, hM.k26, hM.k51, hM.k52, hM.k53, hM.k54, hM.k55, hM.k56, hM.k57, hM.k58, hM.n1, hM.n2, hM.n3, hM.n4, hM.n13, hM.n14, hM.n15, hM.n16, hM.n17, hM.n26, hM.n51, hM.n52, hM.n53, hM.n54, hM.n55, hM.n56, hM.n57, hM.n58, vrf_s, true_or, or_true, true_and, and_true, and_self, not_false_eq_true, pu_s, pu_n, z2_e0, z2_n0, z2_t, z2_f, c135, c1, i1, y3, ti, Option.isSome_none, reduceIte]
      exact k134 (w := 0) hR hW (by decide) (by decide) (fun h2 q2 hR2 => by simp only [pu_s, v141_39]; exact kk h2 (MG.of q2 (fun a j z => by omega)) hR2)
    | some i' =>
      rw [hi] at kk ti
      obtain ⟨rfl, hi'⟩ := thI_s (by omega) hi
      have c2 : (nI i').toNatClampNeg = i' := nIc (by omega)
      have i2 : inb (nI i') 40 = True := nIb (by omega) (by omega)
      simp only [v141_0, v141_1, v141_2, v141_5, v141_7, v141_9, v141_12, v141_14, v141_15, v141_16, v141_17, v141_18, v141_19, v141_22, v141_23, v141_24, v141_25, v141_26, v141_27, v141_30, v141_33, v141_34, v141_36, v141_39, v141_40, v141_41, v141_44, v141_45, v141_46, v141_47, v141_48, v141_51, v141_52, v141_53, v141_54, v141_57, v141_58, v141_59, hM.f0, hM.f1, hM.f2, hM.f3, hM.f4, hM.f5, hM.f6, hM.f8, hM.f10, hM.f12, hM.f13, hM.f25, hM.f27, hM.f28, hM.f36, hM.f37, hM.f38, hM.f40, hM.k0, hM.k1, hM.k2, hM.k3, hM.k4, hM.k13, hM.k14, hM.k15, hM.k16, hM.k17, hM.k26, hM.k51, hM.k52, hM.k53, hM.k54, hM.k55, hM.k56, hM.k57, hM.k58, hM.n1, hM.n2, hM.n3, hM.n4, hM.n13, hM.n14, hM.n15, hM.n16, hM.n17, hM.n26, hM.n51, hM.n52, hM.n53, hM.n54, hM.n55, hM.n56, hM.n57, hM.n58, vrf_s, true_or, or_true, true_and, and_true, and_self, not_false_eq_true, pu_s, pu_n, z2_e0, z2_n0, z2_t, z2_f, c135, c1, i1, c2, i2, y3, e2, ti, Option.isSome_some, i10, reduceIte, w1, w2, w3, c139 hk4]
      have q3 : Fr (fun x j => ((x = m + 1 ∨ x = m + 2 ∨ x = m + 3 ∨ x = m + 14) ∧ j = s') ∨ x = m + (5 + s')) h (pJ h (m + (5 + s')) i' (fitJ k v)) := Fr.rf.pJ (Or.inr rfl)
      rw [hk] at kk
      refine kk _ (MG.of q3 (fun a j z => by omega)) (hR.uh hW q3 (fun a j z => by omega) (hS.put q3 (by omega) (by rw [hk] at y1; exact y1) (fun k2 hk2 => by rw [hk] at y2; exact y2 k2 hk2) y3 (fun j hj => ?_)))
      show _ = up _ i' _ j
      by_cases g : j = i'
      · subst g
        rw [gJ_at, up_at]
        rfl
      · rw [gJ_ne (fun z => g z.2), up_ne g]
        exact y4 j hj
  · rw [hs] at kk
    have ne := rf_ne (w := w) (by have := rrC_lt hs; omega)
    simp only [v141_0, v141_1, v141_2, v141_5, v141_7, v141_9, v141_12, v141_14, v141_15, v141_16, v141_17, v141_18, v141_19, v141_22, v141_23, v141_24, v141_25, v141_26, v141_27, v141_30, v141_33, v141_34, v141_36, v141_39, v141_40, v141_41, v141_44, v141_45, v141_46, v141_47, v141_48, v141_51, v141_52, v141_53, v141_54, v141_57, v141_58, v141_59, pu_s, pu_n, z2_e0, z2_n0, z2_t, z2_f, ne, reduceIte]
    exact kk h2 (MG.of q2 (fun a j z => by omega)) hR2
theorem k143 (hR : MR m u A h) (hW : WF A) (s i : Int32) : AM 143 [.ref m, .int s, .int i] h K = K (some (.long (oElm A s i))) h := by
  obtain ⟨r0, hM, hpp, hP, hQ, hS, hT, hF, hL⟩ := id hR
  unfold oElm
  cases hs : rgI 0 7 s with
  | none => simp only [v143_0, v143_1, v143_2, v143_3, v143_6, v143_9, v143_12, v143_13, v143_16, v143_17, v143_18, v143_19, v143_22, v143_23, v143_24, v143_25, v143_26, v143_29, v143_30, v143_31, v143_32, v143_33, v143_34, v143_37, v143_40, v143_41, v143_44, v143_45, v143_46, v143_47, v143_48, v143_51, v143_52, e143, hM.f0, hM.f1, hM.f2, hM.f3, hM.f4, hM.f5, hM.f6, hM.f8, hM.f10, hM.f12, hM.f13, hM.f25, hM.f27, hM.f28, hM.f36, hM.f37, hM.f38, hM.f40, hM.k0, hM.k1, hM.k2, hM.k3, hM.k4, hM.k13, hM.k14, hM.k15, hM.k16, hM.k17, hM.k26, hM.k51, hM.k52, hM.k53, hM.k54, hM.k55, hM.k56, hM.k57, hM.k58, hM.n1, hM.n2, hM.n3, hM.n4, hM.n13, hM.n14, hM.n15, hM.n16, hM.n17, hM.n26, hM.n51, hM.n52, hM.n53, hM.n54, hM.n55, hM.n56, hM.n57, hM.n58, vrf_s, true_or, or_true, true_and, and_true, and_self, not_false_eq_true, pu_s, pu_n, z2_e0, z2_n0, z2_t, z2_f, c135, rj_0_7, rj_0_4, rj_0_40, rj_0_5, rj_1_99, rj_1_9, rj_0_99, rj_0_9, rj_0_6, rj_0_3, rj_0_255, rj_1_24, rj_3_39, rj_0_1, rj_0_8, rj_0_2, rj_1_30, rj_0_14, rj_12_16, hs, Option.isSome_none, reduceIte]
  | some s' =>
    obtain ⟨rfl, -, hs7⟩ := rgI_s (by decide) (by decide) hs
    obtain ⟨y1, y2, y3, y4⟩ := hS s' (by omega)
    obtain ⟨w1, w2, w3⟩ := hM.rw (show s' < 8 by omega)
    have c1 : (nI s').toNatClampNeg = s' := nIc (by omega)
    have i1 : inb (nI s') 8 = True := nIb (by omega) (by omega)
    have hz := (hW.2.2.2.2 s' (by omega)).1
    have ti := thI_J (n := (aH A s').2.1) (by omega) i
    rcases shTri (hW.2.2.2.2 s' (by omega)) with ⟨g1, g2, g3, g4⟩ | ⟨k, g1, g1', g2, g3, g4⟩ | ⟨k, g1, g1', g1'', g2, g3, g4⟩
    · rw [g2] at y1
      simp only [v143_0, v143_1, v143_2, v143_3, v143_6, v143_9, v143_12, v143_13, v143_16, v143_17, v143_18, v143_19, v143_22, v143_23, v143_24, v143_25, v143_26, v143_29, v143_30, v143_31, v143_32, v143_33, v143_34, v143_37, v143_40, v143_41, v143_44, v143_45, v143_46, v143_47, v143_48, v143_51, v143_52, e143, hM.f0, hM.f1, hM.f2, hM.f3, hM.f4, hM.f5, hM.f6, hM.f8, hM.f10, hM.f12, hM.f13, hM.f25, hM.f27, hM.f28, hM.f36, hM.f37, hM.f38, hM.f40, hM.k0, hM.k1, hM.k2, hM.k3, hM.k4, hM.k13, hM.k14, hM.k15, hM.k16, hM.k17, hM.k26, hM.k51, hM.k52, hM.k53, hM.k54, hM.k55, hM.k56, hM.k57, hM.k58, hM.n1, hM.n2, hM.n3, hM.n4, hM.n13, hM.n14, hM.n15, hM.n16, hM.n17, hM.n26, hM.n51, hM.n52, hM.n53, hM.n54, hM.n55, hM.n56, hM.n57, hM.n58, vrf_s, true_or, or_true, true_and, and_true, and_self, not_false_eq_true, pu_s, pu_n, z2_e0, z2_n0, z2_t, z2_f, c135, rj_0_7, rj_0_4, rj_0_40, rj_0_5, rj_1_99, rj_1_9, rj_0_99, rj_0_9, rj_0_6, rj_0_3, rj_0_255, rj_1_24, rj_3_39, rj_0_1, rj_0_8, rj_0_2, rj_1_30, rj_0_14, rj_12_16, hs, Option.isSome_some, i10, reduceIte, c1, i1, y1, q00, q01, q02, q10, q11, q12, q20, q21, q22, g3, Bool.false_eq_true]
    · rw [g2] at y1
      cases hi : thI (aH A s').2.1 i with
      | none =>
        rw [hi] at ti
        simp only [v143_0, v143_1, v143_2, v143_3, v143_6, v143_9, v143_12, v143_13, v143_16, v143_17, v143_18, v143_19, v143_22, v143_23, v143_24, v143_25, v143_26, v143_29, v143_30, v143_31, v143_32, v143_33, v143_34, v143_37, v143_40, v143_41, v143_44, v143_45, v143_46, v143_47, v143_48, v143_51, v143_52, e143, hM.f0, hM.f1, hM.f2, hM.f3, hM.f4, hM.f5, hM.f6, hM.f8, hM.f10, hM.f12, hM.f13, hM.f25, hM.f27, hM.f28, hM.f36, hM.f37, hM.f38, hM.f40, hM.k0, hM.k1, hM.k2, hM.k3, hM.k4, hM.k13, hM.k14, hM.k15, hM.k16, hM.k17, hM.k26, hM.k51, hM.k52, hM.k53, hM.k54, hM.k55, hM.k56, hM.k57, hM.k58, hM.n1, hM.n2, hM.n3, hM.n4, hM.n13, hM.n14, hM.n15, hM.n16, hM.n17, hM.n26, hM.n51, hM.n52, hM.n53, hM.n54, hM.n55, hM.n56, hM.n57, hM.n58, vrf_s, true_or, or_true, true_and, and_true, and_self, not_false_eq_true, pu_s, pu_n, z2_e0, z2_n0, z2_t, z2_f, c135, rj_0_7, rj_0_4, rj_0_40, rj_0_5, rj_1_99, rj_1_9, rj_0_99, rj_0_9, rj_0_6, rj_0_3, rj_0_255, rj_1_24, rj_3_39, rj_0_1, rj_0_8, rj_0_2, rj_1_30, rj_0_14, rj_12_16, hs, Option.isSome_some, Option.isSome_none, i10, reduceIte, c1, i1, y1, y3, q00, q01, q02, q10, q11, q12, q20, q21, q22, g3, ti, hi, not_true_eq_false]
      | some i' =>
        rw [hi] at ti
        obtain ⟨rfl, hi'⟩ := thI_s (by omega) hi
        have c2 : (nI i').toNatClampNeg = i' := nIc (by omega)
        have i2 : inb (nI i') 40 = True := nIb (by omega) (by omega)
        simp only [v143_0, v143_1, v143_2, v143_3, v143_6, v143_9, v143_12, v143_13, v143_16, v143_17, v143_18, v143_19, v143_22, v143_23, v143_24, v143_25, v143_26, v143_29, v143_30, v143_31, v143_32, v143_33, v143_34, v143_37, v143_40, v143_41, v143_44, v143_45, v143_46, v143_47, v143_48, v143_51, v143_52, e143, hM.f0, hM.f1, hM.f2, hM.f3, hM.f4, hM.f5, hM.f6, hM.f8, hM.f10, hM.f12, hM.f13, hM.f25, hM.f27, hM.f28, hM.f36, hM.f37, hM.f38, hM.f40, hM.k0, hM.k1, hM.k2, hM.k3, hM.k4, hM.k13, hM.k14, hM.k15, hM.k16, hM.k17, hM.k26, hM.k51, hM.k52, hM.k53, hM.k54, hM.k55, hM.k56, hM.k57, hM.k58, hM.n1, hM.n2, hM.n3, hM.n4, hM.n13, hM.n14, hM.n15, hM.n16, hM.n17, hM.n26, hM.n51, hM.n52, hM.n53, hM.n54, hM.n55, hM.n56, hM.n57, hM.n58, vrf_s, true_or, or_true, true_and, and_true, and_self, not_false_eq_true, pu_s, pu_n, z2_e0, z2_n0, z2_t, z2_f, c135, rj_0_7, rj_0_4, rj_0_40, rj_0_5, rj_1_99, rj_1_9, rj_0_99, rj_0_9, rj_0_6, rj_0_3, rj_0_255, rj_1_24, rj_3_39, rj_0_1, rj_0_8, rj_0_2, rj_1_30, rj_0_14, rj_12_16, hs, Option.isSome_some, i10, reduceIte, c1, i1, c2, i2, w1, w2, w3, y1, y3, q00, q01, q02, q10, q11, q12, q20, q21, q22, g3, ti, hi, y4 i' (by omega), not_true_eq_false]
    · rw [g2] at y1
      simp only [v143_0, v143_1, v143_2, v143_3, v143_6, v143_9, v143_12, v143_13, v143_16, v143_17, v143_18, v143_19, v143_22, v143_23, v143_24, v143_25, v143_26, v143_29, v143_30, v143_31, v143_32, v143_33, v143_34, v143_37, v143_40, v143_41, v143_44, v143_45, v143_46, v143_47, v143_48, v143_51, v143_52, e143, hM.f0, hM.f1, hM.f2, hM.f3, hM.f4, hM.f5, hM.f6, hM.f8, hM.f10, hM.f12, hM.f13, hM.f25, hM.f27, hM.f28, hM.f36, hM.f37, hM.f38, hM.f40, hM.k0, hM.k1, hM.k2, hM.k3, hM.k4, hM.k13, hM.k14, hM.k15, hM.k16, hM.k17, hM.k26, hM.k51, hM.k52, hM.k53, hM.k54, hM.k55, hM.k56, hM.k57, hM.k58, hM.n1, hM.n2, hM.n3, hM.n4, hM.n13, hM.n14, hM.n15, hM.n16, hM.n17, hM.n26, hM.n51, hM.n52, hM.n53, hM.n54, hM.n55, hM.n56, hM.n57, hM.n58, vrf_s, true_or, or_true, true_and, and_true, and_self, not_false_eq_true, pu_s, pu_n, z2_e0, z2_n0, z2_t, z2_f, c135, rj_0_7, rj_0_4, rj_0_40, rj_0_5, rj_1_99, rj_1_9, rj_0_99, rj_0_9, rj_0_6, rj_0_3, rj_0_255, rj_1_24, rj_3_39, rj_0_1, rj_0_8, rj_0_2, rj_1_30, rj_0_14, rj_12_16, hs, Option.isSome_some, i10, reduceIte, c1, i1, y1, q00, q01, q02, q10, q11, q12, q20, q21, q22, g3, Bool.false_eq_true, not_false_eq_true]
theorem k144 (hR : MR m u A h) (hW : WF A) (s : Int32) : AM 144 [.ref m, .int s] h K = K (some (.int (oHld A s))) h := by
  obtain ⟨r0, hM, hpp, hP, hQ, hS, hT, hF, hL⟩ := id hR
  unfold oHld
  cases hs : rgI 0 7 s with
  | none => simp only [v144_0, v144_1, v144_2, v144_3, v144_6, v144_9, v144_12, v144_13, v144_16, v144_17, v144_18, v144_21, v144_22, v144_23, v144_24, v144_27, v144_28, v144_29, v144_30, v144_33, v144_34, v144_37, v144_38, v144_39, v144_42, v144_44, v144_45, v144_48, v144_49, v144_50, v144_51, e144, hM.f0, hM.f1, hM.f2, hM.f3, hM.f4, hM.f5, hM.f6, hM.f8, hM.f10, hM.f12, hM.f13, hM.f25, hM.f27, hM.f28, hM.f36, hM.f37, hM.f38, hM.f40, hM.k0, hM.k1, hM.k2, hM.k3, hM.k4, hM.k13, hM.k14, hM.k15, hM.k16, hM.k17, hM.k26, hM.k51, hM.k52, hM.k53, hM.k54, hM.k55, hM.k56, hM.k57, hM.k58, hM.n1, hM.n2, hM.n3, hM.n4, hM.n13, hM.n14, hM.n15, hM.n16, hM.n17, hM.n26, hM.n51, hM.n52, hM.n53, hM.n54, hM.n55, hM.n56, hM.n57, hM.n58, vrf_s, true_or, or_true, true_and, and_true, and_self, not_false_eq_true, pu_s, pu_n, z2_e0, z2_n0, z2_t, z2_f, c135, rj_0_7, rj_0_4, rj_0_40, rj_0_5, rj_1_99, rj_1_9, rj_0_99, rj_0_9, rj_0_6, rj_0_3, rj_0_255, rj_1_24, rj_3_39, rj_0_1, rj_0_8, rj_0_2, rj_1_30, rj_0_14, rj_12_16, hs, Option.isSome_none, reduceIte]
  | some s' =>
    obtain ⟨rfl, -, hs7⟩ := rgI_s (by decide) (by decide) hs
    obtain ⟨y1, y2, y3, y4⟩ := hS s' (by omega)
    have c1 : (nI s').toNatClampNeg = s' := nIc (by omega)
    have i1 : inb (nI s') 8 = True := nIb (by omega) (by omega)
    rcases shTri (hW.2.2.2.2 s' (by omega)) with ⟨g1, g2, g3, g4⟩ | ⟨k, g1, g1', g2, g3, g4⟩ | ⟨k, g1, g1', g1'', g2, g3, g4⟩
    · rw [g2] at y1
      simp only [v144_0, v144_1, v144_2, v144_3, v144_6, v144_9, v144_12, v144_13, v144_16, v144_17, v144_18, v144_21, v144_22, v144_23, v144_24, v144_27, v144_28, v144_29, v144_30, v144_33, v144_34, v144_37, v144_38, v144_39, v144_42, v144_44, v144_45, v144_48, v144_49, v144_50, v144_51, e144, hM.f0, hM.f1, hM.f2, hM.f3, hM.f4, hM.f5, hM.f6, hM.f8, hM.f10, hM.f12, hM.f13, hM.f25, hM.f27, hM.f28, hM.f36, hM.f37, hM.f38, hM.f40, hM.k0, hM.k1, hM.k2, hM.k3, hM.k4, hM.k13, hM.k14, hM.k15, hM.k16, hM.k17, hM.k26, hM.k51, hM.k52, hM.k53, hM.k54, hM.k55, hM.k56, hM.k57, hM.k58, hM.n1, hM.n2, hM.n3, hM.n4, hM.n13, hM.n14, hM.n15, hM.n16, hM.n17, hM.n26, hM.n51, hM.n52, hM.n53, hM.n54, hM.n55, hM.n56, hM.n57, hM.n58, vrf_s, true_or, or_true, true_and, and_true, and_self, not_false_eq_true, pu_s, pu_n, z2_e0, z2_n0, z2_t, z2_f, c135, rj_0_7, rj_0_4, rj_0_40, rj_0_5, rj_1_99, rj_1_9, rj_0_99, rj_0_9, rj_0_6, rj_0_3, rj_0_255, rj_1_24, rj_3_39, rj_0_1, rj_0_8, rj_0_2, rj_1_30, rj_0_14, rj_12_16, hs, Option.isSome_some, i10, reduceIte, c1, i1, y1, q00, q01, q02, q10, q11, q12, q20, q21, q22, g1, oI, not_true_eq_false]
    · rw [g2] at y1
      simp only [v144_0, v144_1, v144_2, v144_3, v144_6, v144_9, v144_12, v144_13, v144_16, v144_17, v144_18, v144_21, v144_22, v144_23, v144_24, v144_27, v144_28, v144_29, v144_30, v144_33, v144_34, v144_37, v144_38, v144_39, v144_42, v144_44, v144_45, v144_48, v144_49, v144_50, v144_51, e144, hM.f0, hM.f1, hM.f2, hM.f3, hM.f4, hM.f5, hM.f6, hM.f8, hM.f10, hM.f12, hM.f13, hM.f25, hM.f27, hM.f28, hM.f36, hM.f37, hM.f38, hM.f40, hM.k0, hM.k1, hM.k2, hM.k3, hM.k4, hM.k13, hM.k14, hM.k15, hM.k16, hM.k17, hM.k26, hM.k51, hM.k52, hM.k53, hM.k54, hM.k55, hM.k56, hM.k57, hM.k58, hM.n1, hM.n2, hM.n3, hM.n4, hM.n13, hM.n14, hM.n15, hM.n16, hM.n17, hM.n26, hM.n51, hM.n52, hM.n53, hM.n54, hM.n55, hM.n56, hM.n57, hM.n58, vrf_s, true_or, or_true, true_and, and_true, and_self, not_false_eq_true, pu_s, pu_n, z2_e0, z2_n0, z2_t, z2_f, c135, rj_0_7, rj_0_4, rj_0_40, rj_0_5, rj_1_99, rj_1_9, rj_0_99, rj_0_9, rj_0_6, rj_0_3, rj_0_255, rj_1_24, rj_3_39, rj_0_1, rj_0_8, rj_0_2, rj_1_30, rj_0_14, rj_12_16, hs, Option.isSome_some, i10, reduceIte, c1, i1, y1, q00, q01, q02, q10, q11, q12, q20, q21, q22, g1, oI, not_true_eq_false, (y2 k g1).1 g1']
    · rw [g2] at y1
      have e10 : (10 : Int32) + nI (k - 10) = nI k := by
        have := nI_add 10 (k - 10)
        rw [show 10 + (k - 10) = k by omega] at this
        exact this
      simp only [v144_0, v144_1, v144_2, v144_3, v144_6, v144_9, v144_12, v144_13, v144_16, v144_17, v144_18, v144_21, v144_22, v144_23, v144_24, v144_27, v144_28, v144_29, v144_30, v144_33, v144_34, v144_37, v144_38, v144_39, v144_42, v144_44, v144_45, v144_48, v144_49, v144_50, v144_51, e144, hM.f0, hM.f1, hM.f2, hM.f3, hM.f4, hM.f5, hM.f6, hM.f8, hM.f10, hM.f12, hM.f13, hM.f25, hM.f27, hM.f28, hM.f36, hM.f37, hM.f38, hM.f40, hM.k0, hM.k1, hM.k2, hM.k3, hM.k4, hM.k13, hM.k14, hM.k15, hM.k16, hM.k17, hM.k26, hM.k51, hM.k52, hM.k53, hM.k54, hM.k55, hM.k56, hM.k57, hM.k58, hM.n1, hM.n2, hM.n3, hM.n4, hM.n13, hM.n14, hM.n15, hM.n16, hM.n17, hM.n26, hM.n51, hM.n52, hM.n53, hM.n54, hM.n55, hM.n56, hM.n57, hM.n58, vrf_s, true_or, or_true, true_and, and_true, and_self, not_false_eq_true, pu_s, pu_n, z2_e0, z2_n0, z2_t, z2_f, c135, rj_0_7, rj_0_4, rj_0_40, rj_0_5, rj_1_99, rj_1_9, rj_0_99, rj_0_9, rj_0_6, rj_0_3, rj_0_255, rj_1_24, rj_3_39, rj_0_1, rj_0_8, rj_0_2, rj_1_30, rj_0_14, rj_12_16, hs, Option.isSome_some, i10, reduceIte, c1, i1, y1, q00, q01, q02, q10, q11, q12, q20, q21, q22, g1, oI, not_true_eq_false, (y2 k g1).2 g1', e10]
theorem k145 (hR : MR m u A h) (hW : WF A) (s t : Int32) (kk : ∀ (h2 : Hp) (u2 : LU), MG m h h2 → MR m u2 (oShw A s t).1 h2 → K (some (.int (oShw A s t).2)) h2) : AM 145 [.ref m, .int s, .int t] h K := by
  obtain ⟨r0, hM, hpp, hP, hQ, hS, hT, hF, hL⟩ := id hR
  unfold oShw at kk
  replace kk := fun h2 => kk h2 u
  cases hs : rgI 0 7 s with
  | none =>
    rw [hs] at kk
    simp only [v145_0, v145_1, v145_2, v145_3, v145_6, v145_9, v145_12, v145_13, v145_14, v145_17, v145_18, v145_19, v145_22, v145_25, v145_26, v145_28, v145_31, v145_32, v145_33, v145_36, v145_37, v145_38, v145_39, v145_42, v145_43, v145_46, v145_47, v145_48, v145_49, v145_52, v145_53, v145_54, v145_55, v145_56, e145, hM.f0, hM.f1, hM.f2, hM.f3, hM.f4, hM.f5, hM.f6, hM.f8, hM.f10, hM.f12, hM.f13, hM.f25, hM.f27, hM.f28, hM.f36, hM.f37, hM.f38, hM.f40, hM.k0, hM.k1, hM.k2, hM.k3, hM.k4, hM.k13, hM.k14, hM.k15, hM.k16, hM.k17, hM.k26, hM.k51, hM.k52, hM.k53, hM.k54, hM.k55, hM.k56, hM.k57, hM.k58, hM.n1, hM.n2, hM.n3, hM.n4, hM.n13, hM.n14, hM.n15, hM.n16, hM.n17, hM.n26, hM.n51, hM.n52, hM.n53, hM.n54, hM.n55, hM.n56, hM.n57, hM.n58, vrf_s, true_or, or_true, true_and, and_true, and_self, not_false_eq_true, pu_s, pu_n, z2_e0, z2_n0, z2_t, z2_f, c135, rj_0_7, rj_0_4, rj_0_40, rj_0_5, rj_1_99, rj_1_9, rj_0_99, rj_0_9, rj_0_6, rj_0_3, rj_0_255, rj_1_24, rj_3_39, rj_0_1, rj_0_8, rj_0_2, rj_1_30, rj_0_14, rj_12_16, hs, Option.isSome_none, reduceIte]
    exact k134 (w := 0) hR hW (by decide) (by decide) (fun h2 q2 hR2 => by simp only [pu_s, v145_31]; exact kk h2 (MG.of q2 (fun a j z => by omega)) hR2)
  | some s' =>
    rw [hs] at kk
    obtain ⟨rfl, -, hs7⟩ := rgI_s (by decide) (by decide) hs
    obtain ⟨y1, y2, y3, y4⟩ := hS s' (by omega)
    have c1 : (nI s').toNatClampNeg = s' := nIc (by omega)
    have i1 : inb (nI s') 8 = True := nIb (by omega) (by omega)
    have q3 : ∀ x y : Int32, Fr (fun x j => ((x = m + 1 ∨ x = m + 2 ∨ x = m + 3 ∨ x = m + 14) ∧ j = s') ∨ x = m + (5 + s')) h (pI (pI h (m + 1) s' x) (m + 14) s' y) := fun x y => (Fr.rf.pI (Or.inl ⟨by omega, rfl⟩)).pI (Or.inl ⟨by omega, rfl⟩)
    by_cases g : t = -1
    · subst g
      simp only [reduceIte] at kk
      simp only [v145_0, v145_1, v145_2, v145_3, v145_6, v145_9, v145_12, v145_13, v145_14, v145_17, v145_18, v145_19, v145_22, v145_25, v145_26, v145_28, v145_31, v145_32, v145_33, v145_36, v145_37, v145_38, v145_39, v145_42, v145_43, v145_46, v145_47, v145_48, v145_49, v145_52, v145_53, v145_54, v145_55, v145_56, e145, hM.f0, hM.f1, hM.f2, hM.f3, hM.f4, hM.f5, hM.f6, hM.f8, hM.f10, hM.f12, hM.f13, hM.f25, hM.f27, hM.f28, hM.f36, hM.f37, hM.f38, hM.f40, hM.k0, hM.k1, hM.k2, hM.k3, hM.k4, hM.k13, hM.k14, hM.k15, hM.k16, hM.k17, hM.k26, hM.k51, hM.k52, hM.k53, hM.k54, hM.k55, hM.k56, hM.k57, hM.k58, hM.n1, hM.n2, hM.n3, hM.n4, hM.n13, hM.n14, hM.n15, hM.n16, hM.n17, hM.n26, hM.n51, hM.n52, hM.n53, hM.n54, hM.n55, hM.n56, hM.n57, hM.n58, vrf_s, true_or, or_true, true_and, and_true, and_self, not_false_eq_true, pu_s, pu_n, z2_e0, z2_n0, z2_t, z2_f, c135, rj_0_7, rj_0_4, rj_0_40, rj_0_5, rj_1_99, rj_1_9, rj_0_99, rj_0_9, rj_0_6, rj_0_3, rj_0_255, rj_1_24, rj_3_39, rj_0_1, rj_0_8, rj_0_2, rj_1_30, rj_0_14, rj_12_16, hs, Option.isSome_some, i10, reduceIte, c1, i1, gI_pJ, gI_pR, gJ_pI, gJ_pR, gR_pI, gR_pJ, gK_pI, gK_pJ, gK_pR, gN_pI, gN_pJ, gN_pR, gX_pI, gX_pJ, gX_pR, gS_pI, gS_pJ, gS_pR, gK_cpI, gN_cpI, gK_cpJ, gN_cpJ, gR_cpI, gR_cpJ, gJ_cpI, gI_cpJ]
      refine kk _ (MG.of (q3 _ _) (fun a j z => by omega)) (hR.uh hW (q3 _ _) (fun a j z => by omega) (hS.put (q3 _ _) (by omega) ?_ (fun k hk => by cases hk) ?_ y4))
      · rw [gI_ne (by omega), gI_at]
        rfl
      · rw [gI_ne (by omega), gI_ne (by omega)]
        exact y3
    · dsimp only at kk
      rw [if_neg g] at kk
      cases ht : thI (sN (aS A)) t with
      | none =>
        rw [ht] at kk
        simp only [v145_0, v145_1, v145_2, v145_3, v145_6, v145_9, v145_12, v145_13, v145_14, v145_17, v145_18, v145_19, v145_22, v145_25, v145_26, v145_28, v145_31, v145_32, v145_33, v145_36, v145_37, v145_38, v145_39, v145_42, v145_43, v145_46, v145_47, v145_48, v145_49, v145_52, v145_53, v145_54, v145_55, v145_56, e145, hM.f0, hM.f1, hM.f2, hM.f3, hM.f4, hM.f5, hM.f6, hM.f8, hM.f10, hM.f12, hM.f13, hM.f25, hM.f27, hM.f28, hM.f36, hM.f37, hM.f38, hM.f40, hM.k0, hM.k1, hM.k2, hM.k3, hM.k4, hM.k13, hM.k14, hM.k15, hM.k16, hM.k17, hM.k26, hM.k51, hM.k52, hM.k53, hM.k54, hM.k55, hM.k56, hM.k57, hM.k58, hM.n1, hM.n2, hM.n3, hM.n4, hM.n13, hM.n14, hM.n15, hM.n16, hM.n17, hM.n26, hM.n51, hM.n52, hM.n53, hM.n54, hM.n55, hM.n56, hM.n57, hM.n58, vrf_s, true_or, or_true, true_and, and_true, and_self, not_false_eq_true, pu_s, pu_n, z2_e0, z2_n0, z2_t, z2_f, c135, rj_0_7, rj_0_4, rj_0_40, rj_0_5, rj_1_99, rj_1_9, rj_0_99, rj_0_9, rj_0_6, rj_0_3, rj_0_255, rj_1_24, rj_3_39, rj_0_1, rj_0_8, rj_0_2, rj_1_30, rj_0_14, rj_12_16, hs, Option.isSome_some, i10, reduceIte, g, k136 hR hW, ht, Option.isSome_none]
        exact k134 (w := 0) hR hW (by decide) (by decide) (fun h2 q2 hR2 => by simp only [pu_s, v145_31]; exact kk h2 (MG.of q2 (fun a j z => by omega)) hR2)
      | some t' =>
        rw [ht] at kk
        have hn := hW.1.1
        obtain ⟨rfl, ht'⟩ := thI_s (by omega) ht
        simp only [v145_0, v145_1, v145_2, v145_3, v145_6, v145_9, v145_12, v145_13, v145_14, v145_17, v145_18, v145_19, v145_22, v145_25, v145_26, v145_28, v145_31, v145_32, v145_33, v145_36, v145_37, v145_38, v145_39, v145_42, v145_43, v145_46, v145_47, v145_48, v145_49, v145_52, v145_53, v145_54, v145_55, v145_56, e145, hM.f0, hM.f1, hM.f2, hM.f3, hM.f4, hM.f5, hM.f6, hM.f8, hM.f10, hM.f12, hM.f13, hM.f25, hM.f27, hM.f28, hM.f36, hM.f37, hM.f38, hM.f40, hM.k0, hM.k1, hM.k2, hM.k3, hM.k4, hM.k13, hM.k14, hM.k15, hM.k16, hM.k17, hM.k26, hM.k51, hM.k52, hM.k53, hM.k54, hM.k55, hM.k56, hM.k57, hM.k58, hM.n1, hM.n2, hM.n3, hM.n4, hM.n13, hM.n14, hM.n15, hM.n16, hM.n17, hM.n26, hM.n51, hM.n52, hM.n53, hM.n54, hM.n55, hM.n56, hM.n57, hM.n58, vrf_s, true_or, or_true, true_and, and_true, and_self, not_false_eq_true, pu_s, pu_n, z2_e0, z2_n0, z2_t, z2_f, c135, rj_0_7, rj_0_4, rj_0_40, rj_0_5, rj_1_99, rj_1_9, rj_0_99, rj_0_9, rj_0_6, rj_0_3, rj_0_255, rj_1_24, rj_3_39, rj_0_1, rj_0_8, rj_0_2, rj_1_30, rj_0_14, rj_12_16, hs, Option.isSome_some, i10, reduceIte, g, k136 hR hW, ht, c1, i1, gI_pJ, gI_pR, gJ_pI, gJ_pR, gR_pI, gR_pJ, gK_pI, gK_pJ, gK_pR, gN_pI, gN_pJ, gN_pR, gX_pI, gX_pJ, gX_pR, gS_pI, gS_pJ, gS_pR, gK_cpI, gN_cpI, gK_cpJ, gN_cpJ, gR_cpI, gR_cpJ, gJ_cpI, gI_cpJ]
        refine kk _ (MG.of (q3 _ _) (fun a j z => by omega)) (hR.uh hW (q3 _ _) (fun a j z => by omega) (hS.put (q3 _ _) (by omega) ?_ (fun k hk => ?_) ?_ y4))
        · rw [gI_ne (by omega), gI_at]
          show (2 : Int32) = nI (if 10 + t' ≤ 4 then 1 else 2)
          rw [if_neg (by omega)]
          rfl
        · cases hk
          refine ⟨fun z => by omega, fun _ => ?_⟩
          rw [gI_at, show 10 + t' - 10 = t' by omega]
        · rw [gI_ne (by omega), gI_ne (by omega)]
          exact y3
end
