/-! THE CLASS'S OBJECT is made -/
section
variable {r b : Nat} {h0 : Hp} {K : Option Value → Hp → Prop}
theorem n41 (hm : gX h0 = r) (kk : ∀ h2, gX h2 = r + 44 → gS h2 = gS h0 + 550 → Ag r h0 h2 → (∃ ρ β, TS r (r + 1) (r + 37) ρ β h2) → K none h2) : AM 41 [.ref r] (mk1 h0 5 0 2) K := by
  have x1 : gX (mk1 h0 5 0 2) = r + 1 := by rw [gX_mk1, hm]
  have k0 : gK (mk1 (mk1 h0 5 0 2) 3 0 8) (gX (mk1 h0 5 0 2)) = 3 := if_pos rfl
  simp only [e41, v41_0, v41_1, v41_4, v41_5, v41_8, v41_9, k0, true_and]
  refine n19 (m := gX (mk1 h0 5 0 2)) rfl (fun h1 g1 g2 g3 g4 => ?_)
  have y1 : gK h1 r = 5 := by rw [g3.ak (by omega)]; exact if_pos hm.symm
  rw [x1] at g1 g3 g4 ⊢
  have kM : gK (mk1 (pR h1 r 0 (some (r + 1))) 1 0 17) (gX (pR h1 r 0 (some (r + 1)))) = 1 := if_pos rfl
  simp only [pu_n, v41_12, v41_15, v41_16, v41_19, v41_20, y1, kM, true_and]
  have x2 : gX (pR h1 r 0 (some (r + 1))) = r + 37 := g1
  refine n0 (m := gX (pR h1 r 0 (some (r + 1)))) rfl (fun h2 p1 p2 p3 p4 => ?_)
  rw [x2] at p1 p3 p4 ⊢
  have y2 : gK h2 r = 5 := by rw [p3.ak (by omega)]; exact y1
  simp only [pu_n, v41_23, v41_26, y2, true_and]
  have w1 : Fr (fun x _ => x = r) h1 (pR h1 r 0 (some (r + 1))) := Fr.rf.pR rfl
  have w2 : Fr (fun x _ => x = r) h2 (pR h2 r 1 (some (r + 37))) := Fr.rf.pR rfl
  have s1 := (g4.fr w1 (fun u j z => by omega)).ag p3 (by omega)
  obtain ⟨ρ, β, hQ, -⟩ := s1.fr w2 (fun u j z => by omega)
  have gs : gS (pR h1 r 0 (some (r + 1))) = gS h1 := rfl
  have gs0 : gS (mk1 h0 5 0 2) = gS h0 + 2 := rfl
  refine kk _ p1 (by show gS h2 = _; omega) ?_ ⟨ρ, β, y2, ?_, gR_at _ _ _ _, p4.fr w2 (fun j _ _ z => by omega), hQ, by omega, by omega⟩
  · have a1 : Ag r h0 h1 := (Ag.rf.mk1 (by omega)).tr (g3.mo (by omega))
    have a2 : Ag r h0 (pR h1 r 0 (some (r + 1))) := a1.pR (Nat.le_refl _)
    exact (a2.tr (p3.mo (by omega))).pR (Nat.le_refl _)
  · rw [gR_ne (by omega), p3.ar (by omega), gR_at]
/-- what stays while the object is made -/
def Sty (b n : Nat) (Q : Hp → Prop) : Prop := (∀ h h' : Hp, Fr (fun x _ => x = b ∨ x = b + 120) h h' → Q h → Q h') ∧ ∀ h h' : Hp, Ag n h h' → Q h → Q h'
theorem Sty.and {n m : Nat} {Q R : Hp → Prop} (hQ : Sty b n Q) (hR : Sty b m R) (hn : n ≤ m) : Sty b m (fun h => Q h ∧ R h) := ⟨fun h h' w q => ⟨hQ.1 h h' w q.1, hR.1 h h' w q.2⟩, fun h h' w q => ⟨hQ.2 h h' (w.mo hn) q.1, hR.2 h h' w q.2⟩⟩
def BB (b n s : Nat) (fr : Nat → Option Nat) (Q : Hp → Prop) (h0 h : Hp) : Prop := gX h = b + n ∧ gS h = gS h0 + s ∧ Ag b h0 h ∧ gK h b = 6 ∧ (∀ j, gR h b j = fr j) ∧ gI h b 2 = 0 ∧ Q h ∧ Sty b (b + n) Q ∧ 1 ≤ n
theorem BB.put {n s c sl f v : Nat} {fr : Nat → Option Nat} {Q R : Hp → Prop} {h h2 : Hp} (B : BB b n s fr Q h0 h) (g1 : gX h2 = b + n + c) (g2 : gS h2 = gS h + sl) (g3 : Ag (b + n) h h2) (hR : R h2) (sR : Sty b (b + (n + c)) R) : BB b (n + c) (s + sl) (up fr f (some v)) (fun h => Q h ∧ R h) h0 (pR h2 b f (some v)) := by
  obtain ⟨b1, b2, b3, b4, b5, b6, b7, b8, b9⟩ := B
  have w : Fr (fun x _ => x = b ∨ x = b + 120) h2 (pR h2 b f (some v)) := Fr.rf.pR (Or.inl rfl)
  refine ⟨by show gX h2 = _; omega, by show gS h2 = _; omega, (b3.tr (g3.mo (by omega))).pR (Nat.le_refl _), by show gK h2 b = 6; rw [g3.ak (by omega)]; exact b4, fun j => ?_, by show gI h2 b 2 = 0; rw [g3.ai (by omega)]; exact b6, ⟨b8.1 _ _ w (b8.2 _ _ g3 b7), sR.1 _ _ w hR⟩, b8.and sR (by omega), by omega⟩
  by_cases e : j = f
  · subst e
    rw [gR_at, up_at]
  · rw [gR_ne (fun z => e z.2), up_ne e, g3.ar (by omega)]
    exact b5 j
theorem sty_st {a : Nat} (ha : b < a) (h2 : a + 36 ≤ b + 120) {s : SG} {q : XQ} {n : Nat} (hn : a + 36 ≤ n) : Sty b n (ST a s q) := ⟨fun h h' w hs => hs.fr w (fun u j z => by omega), fun h h' w hs => hs.ag w hn⟩
theorem sty_tr : Sty b (b + 117) (TR b) := ⟨fun h h' w hs => hs.fr w (fun u j z => by omega), fun h h' w hs => by
  obtain ⟨ρ, β, t1, t2, t3, t4, t5, t6, t7⟩ := hs
  obtain ⟨w1, w2, w3, w4, w5, w6, w7, w9, w10, w11, w12, w13, w14, w15, w16, w17, w18, w19, w20⟩ := t4
  exact ⟨ρ, β, (w.ak (by omega)).trans t1, (w.ar (by omega)).trans t2, (w.ar (by omega)).trans t3, ⟨(w.ak (by omega)).trans w1, (w.ar (by omega)).trans w2, (w.ar (by omega)).trans w3, (w.ar (by omega)).trans w4, (w.ar (by omega)).trans w5, (w.ar (by omega)).trans w6, (w.ar (by omega)).trans w7, (w.ak (by omega)).trans w9, (w.ak (by omega)).trans w10, (w.ak (by omega)).trans w11, (w.ak (by omega)).trans w12, (w.ak (by omega)).trans w13, (w.ak (by omega)).trans w14, (w.an (by omega)).trans w15, (w.an (by omega)).trans w16, (w.an (by omega)).trans w17, (w.an (by omega)).trans w18, (w.an (by omega)).trans w19, (w.an (by omega)).trans w20⟩, t5.ag w (by omega), t6, t7⟩⟩
def TA0 (b : Nat) (h : Hp) : Prop := gK h (b + 117) = 4 ∧ gR h (b + 117) 0 = some (b + 118) ∧ gR h (b + 117) 6 = some (b + 119) ∧ gK h (b + 118) = 8 ∧ gN h (b + 118) = 250 ∧ gK h (b + 119) = 8 ∧ gN h (b + 119) = 7 ∧ gI h (b + 117) 1 = 0
theorem sty_ta : Sty b (b + 120) (TA0 b) := ⟨fun h h' w hs => by
  obtain ⟨t1, t2, t3, t4, t5, t6, t7, t8⟩ := hs
  exact ⟨w.k.trans t1, (w.r (fun z => by omega)).trans t2, (w.r (fun z => by omega)).trans t3, w.k.trans t4, w.n.trans t5, w.k.trans t6, w.n.trans t7, (w.i (fun z => by omega)).trans t8⟩, fun h h' w hs => by
  obtain ⟨t1, t2, t3, t4, t5, t6, t7, t8⟩ := hs
  exact ⟨(w.ak (by omega)).trans t1, (w.ar (by omega)).trans t2, (w.ar (by omega)).trans t3, (w.ak (by omega)).trans t4, (w.an (by omega)).trans t5, (w.ak (by omega)).trans t6, (w.an (by omega)).trans t7, (w.ai (by omega)).trans t8⟩⟩
def SH0 (b : Nat) (h : Hp) : Prop := gK h (b + 120) = 11 ∧ gN h (b + 120) = 8
theorem sty_sh : Sty b (b + 121) (SH0 b) := ⟨fun h h' w hs => ⟨w.k.trans hs.1, w.n.trans hs.2⟩, fun h h' w hs => ⟨(w.ak (by omega)).trans hs.1, (w.an (by omega)).trans hs.2⟩⟩
theorem sty_rf : Sty b (b + 122) (RF b (fun _ => 0)) := ⟨fun h h' w hs => hs.fr w (fun u j z => by omega), fun h h' w hs => ⟨(w.ak (by omega)).trans hs.1, (w.an (by omega)).trans hs.2.1, fun j hj => (w.ai (by omega)).trans (hs.2.2 j hj)⟩⟩
/-- one new shelf at its place -/
def SHi (b i : Nat) (h : Hp) : Prop := gR h (b + 120) i = some (b + 122 + 2 * i) ∧ gK h (b + 122 + 2 * i) = 2 ∧ gR h (b + 122 + 2 * i) 2 = some (b + 123 + 2 * i) ∧ gK h (b + 123 + 2 * i) = 9 ∧ gN h (b + 123 + 2 * i) = 40 ∧ gI h (b + 122 + 2 * i) 0 = -1 ∧ gI h (b + 122 + 2 * i) 1 = 0 ∧ ∀ j, gJ h (b + 123 + 2 * i) j = 0
theorem n53_l {fr : Nat → Option Nat} {Q : Hp → Prop} (f5 : fr 5 = some (b + 120)) (hQs : ∀ h, Q h → SH0 b h) (kk : ∀ h2, BB b 138 1522 fr Q h0 h2 → (∀ i, i < 8 → SHi b i h2) → K none h2) :
    ∀ (j i : Nat) (h1 : Hp), i + j = 8 → BB b (122 + 2 * i) (1178 + 43 * i) fr Q h0 h1 → (∀ x, x < i → SHi b x h1) → V 53 66 [.ref b, .int (nI i)] [] h1 K := by
  intro j
  induction j with
  | zero =>
    intro i h1 hi hB hz
    have e : i = 8 := by omega
    subst e
    have e8 : ((8 : Int32) ≤ nI 8) = True := eq_true (by decide)
    simp only [v53_66, v53_67, v53_69, v53_91, e8, reduceIte]
    exact kk h1 hB hz
  | succ j ih =>
    intro i h1 hi hB hz
    obtain ⟨b1, b2, b3, b4, b5, b6, b7, b8, b9⟩ := hB
    have e8 : ((8 : Int32) ≤ nI i) = False := eq_false (nI_ge (b := 8) (by omega) (by decide))
    have r5 : gR h1 b 5 = some (b + 120) := (b5 5).trans f5
    have kN : gK (mk1 h1 2 0 3) (gX h1) = 2 := if_pos rfl
    have sh1 := hQs h1 b7
    simp only [v53_66, v53_67, v53_69, v53_72, v53_73, v53_76, v53_77, v53_80, v53_81, e8, reduceIte, b4, r5, vrf_s, kN, true_and]
    refine n13 (m := gX h1) rfl (fun h2 g1 g2 g3 g4 => ?_)
    rw [b1] at g1 g3 g4 ⊢
    obtain ⟨x1, x2, x3, x4, x5, x6, x7⟩ := g4
    have c1 : (nI i).toNatClampNeg = i := nIc (by omega)
    have i1 : inb (nI i) 8 = True := nIb (by omega) (by omega)
    have y1 : gK h2 (b + 120) = 11 := (g3.ak (by omega)).trans sh1.1
    have y2 : gN h2 (b + 120) = 8 := (g3.an (by omega)).trans sh1.2
    simp only [pu_n, v53_84, v53_85, y1, y2, x1, c1, i1, true_and, true_or, and_self, nI_1]
    rw [v53_88]
    have w : Fr (fun x _ => x = b ∨ x = b + 120) h2 (pR h2 (b + 120) i (some (b + (122 + 2 * i)))) := Fr.rf.pR (Or.inr rfl)
    have q2 : Q (pR h2 (b + 120) i (some (b + (122 + 2 * i)))) := b8.1 _ _ w (b8.2 _ _ g3 b7)
    refine ih (i + 1) _ (by omega) ⟨by show gX h2 = _; omega, by show gS h2 = _; omega, (b3.tr (g3.mo (by omega))).pR (by omega), (g3.ak (by omega)).trans b4, fun k => ?_, (g3.ai (by omega)).trans b6, q2, ⟨b8.1, fun h h' w => b8.2 h h' (w.mo (by omega))⟩, by omega⟩ (fun x hx => ?_)
    · rw [gR_ne (by omega), g3.ar (by omega)]
      exact b5 k
    · by_cases e : x = i
      · subst e
        have e1 : b + 122 + 2 * x = b + (122 + 2 * x) := by omega
        have e2 : b + 123 + 2 * x = b + (122 + 2 * x) + 1 := by omega
        refine ⟨?_, ?_, ?_, ?_, ?_, ?_, ?_, ?_⟩
        · rw [gR_at, e1]
        · show gK h2 _ = _
          rw [e1]; exact x1
        · rw [gR_ne (by omega), e1, e2]; exact x2
        · show gK h2 _ = _
          rw [e2]; exact x3
        · show gN h2 _ = _
          rw [e2]; exact x4
        · show gI h2 _ _ = _
          rw [e1]; exact x5
        · show gI h2 _ _ = _
          rw [e1]; exact x6
        · intro k
          show gJ h2 _ _ = _
          rw [e2]; exact x7 k
      · obtain ⟨z1, z2, z3, z4, z5, z6, z7, z8⟩ := hz x (by omega)
        refine ⟨?_, (g3.ak (by omega)).trans z2, ?_, (g3.ak (by omega)).trans z4, (g3.an (by omega)).trans z5, (g3.ai (by omega)).trans z6, (g3.ai (by omega)).trans z7, fun k => (g3.aj (by omega)).trans (z8 k)⟩
        · rw [gR_ne (by omega), g3.ar (by omega)]; exact z1
        · rw [gR_ne (by omega), g3.ar (by omega)]; exact z3
theorem n53 (hm : gX h0 = b) (hC : CN b h0) (kk : ∀ h2, gX h2 = b + 138 → gS h2 = gS h0 + 1522 → Ag b h0 h2 → CL b A0 h2 → K none h2) : AM 53 [.ref b] (mk1 h0 6 0 7) K := by
  have B0 : BB b 1 7 (fun _ => none) (fun _ => True) h0 (mk1 h0 6 0 7) := ⟨by rw [gX_mk1, hm], rfl, Ag.rf.mk1 (by omega), if_pos hm.symm, fun j => if_pos hm.symm, if_pos hm.symm, trivial, ⟨fun _ _ _ _ => trivial, fun _ _ _ _ => trivial⟩, Nat.le_refl _⟩
  generalize hx0 : mk1 h0 6 0 7 = x0 at B0
  simp only [e53, v53_0, v53_1]
  -- the stall
  have k0 : gK (mk1 x0 3 0 8) (gX x0) = 3 := if_pos rfl
  simp only [v53_4, v53_5, v53_8, v53_9, k0, true_and]
  refine n19 (m := gX x0) rfl (fun h1 g1 g2 g3 g4 => ?_)
  have kb : gK h1 b = 6 := (g3.ak (by have := B0.1; omega)).trans B0.2.2.2.1
  rw [B0.1] at g1 g3 g4 ⊢
  have B1 := B0.put (c := 36) (sl := 172) (f := 0) (v := b + 1) (R := ST (b + 1) s0G (0, 0, 1)) (by omega) (by omega) g3 g4 (sty_st (by omega) (by omega) (by omega))
  simp only [pu_n, v53_12, kb, true_and]
  generalize hx1 : pR h1 b 0 (some (b + 1)) = x1 at B1
  -- the kept one
  have k0 : gK (mk1 x1 3 0 8) (gX x1) = 3 := if_pos rfl
  simp only [v53_15, v53_16, v53_19, v53_20, k0, true_and]
  refine n19 (m := gX x1) rfl (fun h2 g1 g2 g3 g4 => ?_)
  have kb : gK h2 b = 6 := (g3.ak (by have := B1.1; omega)).trans B1.2.2.2.1
  rw [B1.1] at g1 g3 g4 ⊢
  have B2 := B1.put (c := 36) (sl := 172) (f := 1) (v := b + 37) (R := ST (b + 37) s0G (0, 0, 1)) (by omega) (by omega) g3 g4 (sty_st (by omega) (by omega) (by omega))
  simp only [pu_n, v53_23, kb, true_and]
  change V 53 26 [.ref b, un0] [] (pR h2 b 1 (some (b + 37))) K
  generalize hx2 : pR h2 b 1 (some (b + 37)) = x2 at B2
  -- the trials
  have k0 : gK (mk1 x2 5 0 2) (gX x2) = 5 := if_pos rfl
  simp only [v53_26, v53_27, v53_30, v53_31, k0, true_and]
  refine n41 (r := gX x2) rfl (fun h3 g1 g2 g3 g4 => ?_)
  have kb : gK h3 b = 6 := (g3.ak (by have := B2.1; omega)).trans B2.2.2.2.1
  rw [B2.1] at g1 g3 g4 ⊢
  have B3 := B2.put (c := 44) (sl := 550) (f := 3) (v := b + 73) (R := TR b) (by omega) (by omega) g3 g4 sty_tr
  simp only [pu_n, v53_34, kb, true_and]
  change V 53 37 [.ref b, un0] [] (pR h3 b 3 (some (b + 73))) K
  generalize hx3 : pR h3 b 3 (some (b + 73)) = x3 at B3
  -- the tape
  have k0 : gK (mk1 x3 4 0 7) (gX x3) = 4 := if_pos rfl
  simp only [v53_37, v53_38, v53_41, v53_42, k0, true_and]
  refine n31 (m := gX x3) rfl (fun h4 g1 g2 g3 g4 => ?_)
  have kb : gK h4 b = 6 := (g3.ak (by have := B3.1; omega)).trans B3.2.2.2.1
  rw [B3.1] at g1 g3 g4 ⊢
  have B4 := B3.put (c := 3) (sl := 264) (f := 4) (v := b + 117) (R := TA0 b) (by omega) (by omega) g3 g4 sty_ta
  simp only [pu_n, v53_45, kb, true_and]
  change V 53 48 [.ref b, un0] [] (pR h4 b 4 (some (b + 117))) K
  generalize hx4 : pR h4 b 4 (some (b + 117)) = x4 at B4
  -- the shelves' row
  have b4 := B4.1
  have kb : gK (mk1 x4 11 8 8) b = 6 := by rw [gK_mk1, if_neg (by omega)]; exact B4.2.2.2.1
  simp only [v53_48, v53_49, v53_51, v53_54, kb, true_and]
  rw [b4]
  have B5 := B4.put (h2 := mk1 x4 11 8 8) (c := 1) (sl := 8) (f := 5) (v := b + 120) (R := SH0 b) (by rw [gX_mk1]; omega) rfl (Ag.rf.mk1 (by omega)) ⟨by rw [gK_mk1, if_pos (by omega)], by rw [gN_mk1, if_pos (by omega)]⟩ sty_sh
  change V 53 57 [.ref b, un0] [] (pR (mk1 x4 11 8 8) b 5 (some (b + 120))) K
  generalize hx5 : pR (mk1 x4 11 8 8) b 5 (some (b + 120)) = x5 at B5
  have b5 := B5.1
  have kb : gK (mk1 x5 8 5 5) b = 6 := by rw [gK_mk1, if_neg (by omega)]; exact B5.2.2.2.1
  simp only [v53_57, v53_58, v53_59, v53_61, v53_64, v53_65, kb, true_and]
  rw [b5]
  have B6 := B5.put (h2 := mk1 x5 8 5 5) (c := 1) (sl := 5) (f := 6) (v := b + 121) (R := RF b (fun _ => 0)) (by rw [gX_mk1]; omega) rfl (Ag.rf.mk1 (by omega)) ⟨by rw [gK_mk1, if_pos (by omega)], by rw [gN_mk1, if_pos (by omega)], fun j hj => by rw [gI_mk1, if_pos (by omega)]⟩ sty_rf
  change V 53 66 [.ref b, .int (nI 0)] [] (pR (mk1 x5 8 5 5) b 6 (some (b + 121))) K
  generalize hx6 : pR (mk1 x5 8 5 5) b 6 (some (b + 121)) = x6 at B6
  refine n53_l (h0 := h0) rfl (fun h q => q.1.2) (fun h2 hB hz => ?_) 8 0 x6 rfl B6 (fun x hx => absurd hx (Nat.not_lt_zero x))
  obtain ⟨b1, b2, b3, b4, b5, b6, ⟨⟨⟨⟨⟨⟨-, q1⟩, q2⟩, q3⟩, q4⟩, q5⟩, q6⟩, b8, b9⟩ := hB
  obtain ⟨ρ, β, hQ, -⟩ := id q2
  obtain ⟨t1, t2, t3, t4, t5, t6, t7, t8⟩ := q4
  refine kk h2 b1 b2 b3 ⟨⟨hC.ag b3, b4, b5 0, b5 1, b5 3, b5 4, b5 5, b5 6⟩, q1, ⟨b6, ⟨ρ, β, hQ⟩, fun q hq => by cases hq⟩, q3, ⟨t1, t2, t3, t4, t5, t6, t7, t8, fun j hj => absurd hj (Nat.not_lt_zero j)⟩, ⟨q5.1, q5.2, fun i hi => ?_⟩, q6⟩
  obtain ⟨z1, z2, z3, z4, z5, z6, z7, z8⟩ := hz i hi
  exact ⟨z1, z2, z3, z4, z5, z6, z7, fun j _ => z8 j⟩
end
