/-! THE CLASS READS A SALE -/
theorem RD.tk {b : Nat} {p : TPE} {T : TKN} {s s' : SG} {ρ β ρ' β' : Nat → Nat} {h h1 : Hp} {F : Nat → Nat → Prop} (hR : RD b p T s ρ β h) (w : Fr F h h1) (hF : ∀ x j, F x j → (b + 74 ≤ x ∧ x < b + 110 ∧ ¬ (x = b + 74 ∧ 5 ≤ j))) (hQ : SQ (b + 74) ρ' β' h1) (hV : SV (b + 74) ρ' β' s' h1) (hO : SOk s') : RD b p T s' ρ' β' h1 := by
  obtain ⟨cn7, ⟨t, u1, u2, u3, u4⟩, ok7, hp7, hb7, hQ7, hV7, hO7⟩ := hR
  exact ⟨cn7.fr w (fun x j z => by have := hF x j z; omega), ⟨t.fr hp7 w (fun x j z => by have := hF x j z; omega), (w.i (fun z => by have := hF _ _ z; omega)).trans u1, (w.i (fun z => by have := hF _ _ z; omega)).trans u2, (w.i (fun z => by have := hF _ _ z; omega)).trans u3, (w.i (fun z => by have := hF _ _ z; omega)).trans u4⟩, ok7, hp7, hb7, hQ, hV, hO⟩
section
variable {b a : Nat} {p : TPE} {T : TKN} {s : SG} {ρ β : Nat → Nat} {h h1 : Hp} {K : Option Value → Hp → Prop}
theorem c36 (hR : RD b p T s ρ β h) {col most : Nat} (hk : mkC col most) (hc : col < 7) (hl : tbv 2 col = 0) (hm : tbv 3 col = nI most) (h99 : most ≤ 99) (kk : GK b p (ceT p s T col (nI most)) h K) : AM 36 [.ref (b + 117), .ref (b + 74), .int (nI col)] h K := by
  have t1 := hR.2.1.1.1
  have hn8 := hR.2.2.2.2.2.2.2.1
  simp only [ceT, rd1] at kk
  simp only [e36, v36_0, v36_1, t1, true_and]
  refine rnx hR (fun h1 q1 hR1 => ?_)
  have w1 := q1.mo (G := SW b) (fun x j z => Or.inl z)
  obtain ⟨cn, ⟨⟨t1, t2, t3, t4, t5, t6, t7, t8, t9⟩, u1, u2, u3, u4⟩, ok, hp, hb, hQ, hV, hO⟩ := id hR1
  have k3 := hQ.1
  cases g1 : rdB (nxT p T) 0 (nI (sN s) - 1) with
  | false =>
    rw [g1, if_neg Bool.false_ne_true] at kk
    simp only [pu_n, v36_4, v36_5, v36_6, v36_7, v36_10, v36_11, v36_12, v36_15, v36_18, v36_19, t1, k3, hV.1, c38 hR1, g1, pu_s, z2_f, bo_0, not_true_eq_false, true_and, reduceIte]
    exact hR1.gk w1 kk
  | true =>
    rw [g1, if_pos rfl] at kk
    have hv := rdB_n g1 ok.2.2.2.1 (by omega)
    simp only [pu_n, v36_4, v36_5, v36_6, v36_7, v36_10, v36_11, v36_12, v36_15, v36_20, v36_21, v36_24, v36_25, v36_26, t1, u4, k3, hV.1, c38 hR1, g1, pu_s, z2_t, i10, not_false_eq_true, true_and, reduceIte]
    refine rnx hR1 (fun h2 q2 hR2 => ?_)
    have w2 := w1.tr (q2.mo (G := SW b) (fun x j z => Or.inl z))
    obtain ⟨cn, ⟨⟨t1, t2, t3, t4, t5, t6, t7, t8, t9⟩, u1, u2, u3, u4⟩, ok, hp, hb, hQ, hV, hO⟩ := id hR2
    obtain ⟨s1, s2, s3, s4, s5, s6, s7, s8, s9, s10, -⟩ := id hQ
    obtain ⟨a2, y1, y2, y3, y4⟩ := cn.tb (j := 2) (by decide)
    obtain ⟨a3, x1, x2, x3, x4⟩ := cn.tb (j := 3) (by decide)
    have n2 : gN h2 a2 = 7 := y3
    have n3 : gN h2 a3 = 7 := x3
    have e2 : gI h2 a2 col = 0 := (y4 col (by show col < 7; omega)).trans hl
    have e3 : gI h2 a3 col = nI most := (x4 col (by show col < 7; omega)).trans hm
    have c1 : (nI col).toNatClampNeg = col := nIc (by omega)
    have i1 : inb (nI col) 7 = True := nIb hc (by omega)
    have hv7 : vT (nxT p T) < 8 := by omega
    have c2 : (nI (vT (nxT p T))).toNatClampNeg = vT (nxT p T) := nIc (by omega)
    have i2 : inb (nI (vT (nxT p T))) 8 = True := nIb hv7 (by omega)
    obtain ⟨r1, r2, r3, r4, r5⟩ := hQ.th hv7
    cases g2 : rdB (nxT p (nxT p T)) 0 (nI most) with
    | false =>
      rw [g2, if_neg Bool.false_ne_true] at kk
      simp only [pu_n, v36_29, v36_30, v36_33, v36_34, v36_35, v36_38, v36_39, v36_40, v36_43, v36_46, v36_47, t1, y1, y2, x1, x2, n2, n3, c1, i1, e2, e3, c38 hR2, g2, pu_s, z2_f, bo_0, vrf_s, not_true_eq_false, true_and, true_or, or_true, and_self, reduceIte]
      exact hR2.gk w2 kk
    | true =>
      rw [g2, if_pos rfl] at kk
      have hv2 := (rdB_s (l := 0) (m := most) g2 ok.2.2.2.1 rfl rfl (by decide) (by omega)).2
      simp only [pu_n, v36_29, v36_30, v36_33, v36_34, v36_35, v36_38, v36_39, v36_40, v36_43, v36_48, v36_49, v36_52, v36_53, v36_54, v36_55, v36_56, v36_59, v36_60, v36_61, t1, u4, y1, y2, x1, x2, n2, n3, c1, i1, c2, i2, e2, e3, c38 hR2, g2, s1, s2, s3, s4, s5, s6, r1, r2, r3, pu_s, z2_t, i10, vrf_s, gI_pJ, gI_pR, gJ_pI, gJ_pR, gR_pI, gR_pJ, gK_pI, gK_pJ, gK_pR, gN_pI, gN_pJ, gN_pR, gX_pI, gX_pJ, gX_pR, gS_pI, gS_pJ, gS_pR, gK_cpI, gN_cpI, gK_cpJ, gN_cpJ, gR_cpI, gR_cpJ, gJ_cpI, gI_cpJ, not_false_eq_true, true_and, true_or, or_true, and_self, reduceIte]
      have q3 : FI (fun x _ => x = ρ (vT (nxT p T))) h2 (pI h2 (ρ (vT (nxT p T))) col (nI (vT (nxT p (nxT p T))))) := FI.rf.pI rfl
      have hF : ∀ x j : Nat, x = ρ (vT (nxT p T)) → (b + 74 ≤ x ∧ x < b + 110 ∧ ¬ (x = b + 74 ∧ 5 ≤ j)) := fun x j z => by omega
      have hR3 := hR2.tk q3.1 hF (hQ.fi q3) (SV.set hQ hV hO hv) (hO.set hk hv2)
      refine rnx hR3 (fun h4 q4 hR4 => ?_)
      simp only [pu_n, v36_64, v36_65, bo_1, true_and]
      exact kk h4 ρ β ((w2.tr (q3.1.mo (fun x j z => Or.inr (Or.inr (hF x j z))))).tr (q4.mo (fun x j z => Or.inl z))) hR4.2.1 hR4.2.2.2.2.2.1 hR4.2.2.2.2.2.2.1
theorem c37 (hR : RD b p T s ρ β h) {w : Nat} (hw : w < 4) {lo hi : Int32} (hl : tbv 7 w = lo) (hm : tbv 8 w = hi) (hok : ∀ v, vT v ≤ 99 → rdB v lo hi = true → SOk (sgA s w (vT v))) (kk : GK b p (asT p s T w lo hi) h K) : AM 37 [.ref (b + 117), .ref (b + 74), .int (nI w)] h K := by
  have t1 := hR.2.1.1.1
  simp only [asT, rd1] at kk
  simp only [e37, v37_0, v37_1, t1, true_and]
  refine rnx hR (fun h1 q1 hR1 => ?_)
  have w1 := q1.mo (G := SW b) (fun x j z => Or.inl z)
  obtain ⟨cn, ⟨⟨t1, t2, t3, t4, t5, t6, t7, t8, t9⟩, u1, u2, u3, u4⟩, ok, hp, hb, hQ, hV, hO⟩ := id hR1
  obtain ⟨s1, s2, s3, s4, s5, s6, s7, s8, s9, s10, -⟩ := id hQ
  obtain ⟨a2, y1, y2, y3, y4⟩ := cn.tb (j := 7) (by decide)
  obtain ⟨a3, x1, x2, x3, x4⟩ := cn.tb (j := 8) (by decide)
  have n2 : gN h1 a2 = 4 := y3
  have n3 : gN h1 a3 = 4 := x3
  have e2 : gI h1 a2 w = lo := (y4 w (by show w < 4; omega)).trans hl
  have e3 : gI h1 a3 w = hi := (x4 w (by show w < 4; omega)).trans hm
  have c1 : (nI w).toNatClampNeg = w := nIc (by omega)
  have i1 : inb (nI w) 4 = True := nIb hw (by omega)
  cases g1 : rdB (nxT p T) lo hi with
  | false =>
    rw [g1, if_neg Bool.false_ne_true] at kk
    simp only [pu_n, v37_4, v37_5, v37_8, v37_9, v37_10, v37_13, v37_14, v37_15, v37_18, v37_21, v37_22, t1, y1, y2, x1, x2, n2, n3, c1, i1, e2, e3, c38 hR1, g1, pu_s, z2_f, bo_0, vrf_s, not_true_eq_false, true_and, true_or, or_true, and_self, reduceIte]
    exact hR1.gk w1 kk
  | true =>
    rw [g1, if_pos rfl] at kk
    simp only [pu_n, v37_4, v37_5, v37_8, v37_9, v37_10, v37_13, v37_14, v37_15, v37_18, v37_23, v37_24, v37_27, v37_28, v37_29, v37_32, v37_33, v37_34, t1, u4, y1, y2, x1, x2, n2, n3, c1, i1, e2, e3, c38 hR1, g1, s1, s2, s3, s4, s7, s8, s9, s10, pu_s, z2_t, i10, vrf_s, gI_pJ, gI_pR, gJ_pI, gJ_pR, gR_pI, gR_pJ, gK_pI, gK_pJ, gK_pR, gN_pI, gN_pJ, gN_pR, gX_pI, gX_pJ, gX_pR, gS_pI, gS_pJ, gS_pR, gK_cpI, gN_cpI, gK_cpJ, gN_cpJ, gR_cpI, gR_cpJ, gJ_cpI, gI_cpJ, not_false_eq_true, true_and, true_or, or_true, and_self, reduceIte]
    have q3 : FI (fun x _ => x = b + 74 + 35) h1 (pI h1 (b + 74 + 35) w (nI (vT (nxT p T)))) := FI.rf.pI rfl
    have hF : ∀ x j : Nat, x = b + 74 + 35 → (b + 74 ≤ x ∧ x < b + 110 ∧ ¬ (x = b + 74 ∧ 5 ≤ j)) := fun x j z => by omega
    have hR3 := hR1.tk q3.1 hF (hQ.fi q3) (SV.ask hQ hV hO) (hok _ ok.2.2.2.1 g1)
    refine rnx hR3 (fun h4 q4 hR4 => ?_)
    simp only [pu_n, v37_37, v37_38, bo_1, true_and]
    exact kk h4 ρ β ((w1.tr (q3.1.mo (fun x j z => Or.inr (Or.inr (hF x j z))))).tr (q4.mo (fun x j z => Or.inl z))) hR4.2.1 hR4.2.2.2.2.2.1 hR4.2.2.2.2.2.2.1
theorem okA {w l m : Nat} (hO : SOk s) (hw : w < 4) (hl : loA w = l) (hm : hiA w = m) (hl1 : l ≤ 1000) (hm1 : m ≤ 1000) (v : TKN) (hv : vT v ≤ 99) (h : rdB v (nI l) (nI m) = true) : SOk (sgA s w (vT v)) := by
  obtain ⟨h1, h2⟩ := rdB_s h hv rfl rfl hl1 hm1
  exact hO.ask hw (by omega) (by omega)
/-- a statement -/
theorem c33 (hR : RD b p T s ρ β h) (kk : GK b p (stm p s T) h K) : AM 33 [.ref (b + 117), .ref (b + 74)] h K := by
  obtain ⟨cn, hC, ok, hp, hb, hQ, hV, hO⟩ := id hR
  have t1 := hC.1.1
  unfold stm at kk
  obtain ⟨a0, x0, hX0⟩ := cn.tx (q := (((3, 38), "thing", 474))) (w := wTh) (by decide) (by decide +kernel)
  have x0' : gR h 0 674 = some a0 := x0
  simp only [e33, v33_0, v33_1, v33_3, x0', vrf_s, t1, true_and]
  rw [c39 hC ok hp hb hX0 (by decide) (by decide)]
  cases g0 : isW p T wTh with
  | true =>
    rw [g0, if_pos rfl] at kk
    simp only [v33_6, v33_9, v33_10, v33_11, t1, pu_s, z2_t, i10, vrf_s, true_and, reduceIte]
    refine c34 hR (fun h2 ρ2 β2 w2 hC2 hQ2 hV2 => ?_)
    simp only [pu_s, v33_14, bo_z2, true_and]
    exact kk h2 ρ2 β2 w2 hC2 hQ2 hV2
  | false =>
    rw [g0, if_neg Bool.false_ne_true] at kk
    simp only [v33_6, pu_s, z2_f, reduceIte]
    obtain ⟨a1, x1, hX1⟩ := cn.tx (q := (((3, 47), "buyer", 539))) (w := wBy) (by decide) (by decide +kernel)
    have x1' : gR h 0 739 = some a1 := x1
    simp only [v33_15, v33_16, v33_18, x1', vrf_s, t1, true_and]
    rw [c39 hC ok hp hb hX1 (by decide) (by decide)]
    cases g1 : isW p T wBy with
    | true =>
      rw [g1, if_pos rfl] at kk
      simp only [v33_21, v33_24, v33_25, v33_26, t1, pu_s, z2_t, i10, vrf_s, true_and, reduceIte]
      refine c35 hR (fun h2 ρ2 β2 w2 hC2 hQ2 hV2 => ?_)
      simp only [pu_s, v33_29, bo_z2, true_and]
      exact kk h2 ρ2 β2 w2 hC2 hQ2 hV2
    | false =>
      rw [g1, if_neg Bool.false_ne_true] at kk
      simp only [v33_21, pu_s, z2_f, reduceIte]
      obtain ⟨a2, x2, hX2⟩ := cn.tx (q := (((3, 52), "mark", 547))) (w := wMk) (by decide) (by decide +kernel)
      have x2' : gR h 0 747 = some a2 := x2
      simp only [v33_30, v33_31, v33_33, x2', vrf_s, t1, true_and]
      rw [c39 hC ok hp hb hX2 (by decide) (by decide)]
      cases g2 : isW p T wMk with
      | true =>
        rw [g2, if_pos rfl] at kk
        simp only [v33_36, v33_39, v33_40, v33_41, v33_42, t1, pu_s, z2_t, i10, vrf_s, true_and, reduceIte]
        refine c36 (col := 5) (most := 99) hR (Or.inl ⟨rfl, rfl⟩) (by decide) rfl rfl (by decide) (fun h2 ρ2 β2 w2 hC2 hQ2 hV2 => ?_)
        simp only [pu_s, v33_45, bo_z2, true_and]
        exact kk h2 ρ2 β2 w2 hC2 hQ2 hV2
      | false =>
        rw [g2, if_neg Bool.false_ne_true] at kk
        simp only [v33_36, pu_s, z2_f, reduceIte]
        obtain ⟨a3, x3, hX3⟩ := cn.tx (q := (((3, 58), "from", 552))) (w := wFr) (by decide) (by decide +kernel)
        have x3' : gR h 0 752 = some a3 := x3
        simp only [v33_46, v33_47, v33_49, x3', vrf_s, t1, true_and]
        rw [c39 hC ok hp hb hX3 (by decide) (by decide)]
        cases g3 : isW p T wFr with
        | true =>
          rw [g3, if_pos rfl] at kk
          simp only [v33_52, v33_55, v33_56, v33_57, v33_59, t1, pu_s, z2_t, i10, vrf_s, true_and, reduceIte]
          refine c36 (col := 6) (most := 7) hR (Or.inr ⟨rfl, rfl⟩) (by decide) rfl rfl (by decide) (fun h2 ρ2 β2 w2 hC2 hQ2 hV2 => ?_)
          simp only [pu_s, v33_62, bo_z2, true_and]
          exact kk h2 ρ2 β2 w2 hC2 hQ2 hV2
        | false =>
          rw [g3, if_neg Bool.false_ne_true] at kk
          simp only [v33_52, pu_s, z2_f, reduceIte]
          obtain ⟨a4, x4, hX4⟩ := cn.tx (q := (((3, 60), "feet", 553))) (w := wFe) (by decide) (by decide +kernel)
          have x4' : gR h 0 753 = some a4 := x4
          simp only [v33_63, v33_64, v33_66, x4', vrf_s, t1, true_and]
          rw [c39 hC ok hp hb hX4 (by decide) (by decide)]
          cases g4 : isW p T wFe with
          | true =>
            rw [g4, if_pos rfl] at kk
            simp only [v33_69, v33_72, v33_73, v33_74, v33_75, t1, pu_s, z2_t, i10, vrf_s, true_and, reduceIte]
            refine c37 (w := 0) (lo := 1) (hi := 30) hR (by decide) rfl rfl (fun v hv hg => okA (l := 1) (m := 30) hO (by decide) rfl rfl (by decide) (by decide) v hv hg) (fun h2 ρ2 β2 w2 hC2 hQ2 hV2 => ?_)
            simp only [pu_s, v33_78, bo_z2, true_and]
            exact kk h2 ρ2 β2 w2 hC2 hQ2 hV2
          | false =>
            rw [g4, if_neg Bool.false_ne_true] at kk
            simp only [v33_69, pu_s, z2_f, reduceIte]
            obtain ⟨a5, x5, hX5⟩ := cn.tx (q := (((3, 65), "fall", 560))) (w := wFa) (by decide) (by decide +kernel)
            have x5' : gR h 0 760 = some a5 := x5
            simp only [v33_79, v33_80, v33_82, x5', vrf_s, t1, true_and]
            rw [c39 hC ok hp hb hX5 (by decide) (by decide)]
            cases g5 : isW p T wFa with
            | true =>
              rw [g5, if_pos rfl] at kk
              simp only [v33_85, v33_88, v33_89, v33_90, v33_91, t1, pu_s, z2_t, i10, vrf_s, true_and, reduceIte]
              refine c37 (w := 1) (lo := 0) (hi := 14) hR (by decide) rfl rfl (fun v hv hg => okA (l := 0) (m := 14) hO (by decide) rfl rfl (by decide) (by decide) v hv hg) (fun h2 ρ2 β2 w2 hC2 hQ2 hV2 => ?_)
              simp only [pu_s, v33_94, bo_z2, true_and]
              exact kk h2 ρ2 β2 w2 hC2 hQ2 hV2
            | false =>
              rw [g5, if_neg Bool.false_ne_true] at kk
              simp only [v33_85, pu_s, z2_f, reduceIte]
              obtain ⟨a6, x6, hX6⟩ := cn.tx (q := (((3, 67), "friend", 561))) (w := wFd) (by decide) (by decide +kernel)
              have x6' : gR h 0 761 = some a6 := x6
              simp only [v33_95, v33_96, v33_98, x6', vrf_s, t1, true_and]
              rw [c39 hC ok hp hb hX6 (by decide) (by decide)]
              cases g6 : isW p T wFd with
              | true =>
                rw [g6, if_pos rfl] at kk
                simp only [v33_101, v33_104, v33_105, v33_106, v33_107, t1, pu_s, z2_t, i10, vrf_s, true_and, reduceIte]
                refine c37 (w := 2) (lo := 0) (hi := 1) hR (by decide) rfl rfl (fun v hv hg => okA (l := 0) (m := 1) hO (by decide) rfl rfl (by decide) (by decide) v hv hg) (fun h2 ρ2 β2 w2 hC2 hQ2 hV2 => ?_)
                simp only [pu_s, v33_110, bo_z2, true_and]
                exact kk h2 ρ2 β2 w2 hC2 hQ2 hV2
              | false =>
                rw [g6, if_neg Bool.false_ne_true] at kk
                simp only [v33_101, pu_s, z2_f, reduceIte]
                obtain ⟨a7, x7, hX7⟩ := cn.tx (q := (((3, 69), "tip", 562))) (w := wTp) (by decide) (by decide +kernel)
                have x7' : gR h 0 762 = some a7 := x7
                simp only [v33_111, v33_112, v33_114, x7', vrf_s, t1, true_and]
                rw [c39 hC ok hp hb hX7 (by decide) (by decide)]
                cases g7 : isW p T wTp with
                | true =>
                  rw [g7, if_pos rfl] at kk
                  simp only [v33_117, v33_120, v33_121, v33_122, v33_123, t1, pu_s, z2_t, i10, vrf_s, true_and, reduceIte]
                  refine c37 (w := 3) (lo := 0) (hi := 9) hR (by decide) rfl rfl (fun v hv hg => okA (l := 0) (m := 9) hO (by decide) rfl rfl (by decide) (by decide) v hv hg) (fun h2 ρ2 β2 w2 hC2 hQ2 hV2 => ?_)
                  have kk2 := kk h2 ρ2 β2 w2 hC2 hQ2 hV2
                  cases gz : (asT p s T 3 0 9).1 with
                  | true =>
                    rw [gz] at kk2
                    simp only [gz, pu_s, v33_126, v33_129, v33_130, v33_134, z2_t, i10, bo_1, true_and, reduceIte]
                    exact kk2
                  | false =>
                    rw [gz] at kk2
                    simp only [gz, pu_s, v33_126, v33_133, v33_134, z2_f, bo_0, true_and, reduceIte]
                    exact kk2
                | false =>
                  rw [g7, if_neg Bool.false_ne_true] at kk
                  simp only [v33_117, v33_133, v33_134, pu_s, z2_f, bo_0, true_and, reduceIte]
                  exact hR.gk Fr.rf kk
end
