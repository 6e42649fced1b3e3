/-! THE REFERENCE'S STATEMENT AND SALE -/
section
variable {c m a x : Nat} {p : TPE} {T : TKN} {s : SG} {h h1 : Hp} {K : Option Value → Hp → Prop} {u : LU} {A : XA} {q : XQ} {F : Nat → Nat → Prop}
theorem c168 (hR : RM c m p T s h) (g8 : sN s < 8) (kk : GM c m p (thT p s T) h K) : AM 168 [.ref m] h K := by
  have k0 := hR.2.2.1.k0
  simp only [thT, rd1] at kk
  rw [if_pos g8] at kk
  simp only [e168, v168_0, v168_1, v168_2, v168_3, k0, true_and]
  refine c167 hR (by decide) (fun g h2 s' w2 a1 a2 a3 a4 => ?_) (fun g h1 q1 hR1 y0 => ?_)
  · rw [g, if_neg Bool.false_ne_true] at kk
    simp only [pu_s, v168_6, v168_42, v168_43, bo_0, true_and, reduceIte]
    exact kk.2 rfl h2 s' w2 a1 a2 a3 a4
  rw [g, if_pos rfl] at kk
  have w1 := q1.mo (G := PWm m) (fun x j z => NM.p z)
  have k0 := hR1.2.2.1.k0
  simp only [pu_s, v168_6, v168_9, v168_10, v168_11, v168_12, v168_14, i10, k0, true_and, reduceIte]
  refine c166 (k := 1) hR1 (by decide) (by decide) (fun g h2 s' w2 a1 a2 a3 a4 => ?_) (fun g h2 q2 hR2 y1 => ?_)
  · rw [g, if_neg Bool.false_ne_true] at kk
    simp only [pu_s, v168_17, v168_42, v168_43, bo_0, true_and, reduceIte]
    exact kk.2 rfl h2 s' (w1.tr w2) a1 a2 a3 a4
  rw [g, if_pos rfl] at kk
  have w2 := w1.tr (q2.mo (G := PWm m) (fun x j z => NM.p z))
  have k0 := hR2.2.2.1.k0
  simp only [pu_s, v168_17, v168_20, v168_21, v168_22, v168_23, v168_25, i10, k0, true_and, reduceIte]
  refine c166 (k := 2) hR2 (by decide) (by decide) (fun g h2 s' w3 a1 a2 a3 a4 => ?_) (fun g h3 q3 hR3 y2 => ?_)
  · rw [g, if_neg Bool.false_ne_true] at kk
    simp only [pu_s, v168_28, v168_42, v168_43, bo_0, true_and, reduceIte]
    exact kk.2 rfl h2 s' (w2.tr w3) a1 a2 a3 a4
  rw [g, if_pos rfl] at kk
  have w3 := w2.tr (q3.mo (G := PWm m) (fun x j z => NM.p z))
  have k0 := hR3.2.2.1.k0
  simp only [pu_s, v168_28, v168_31, v168_32, v168_33, v168_34, v168_36, i10, k0, true_and, reduceIte]
  refine c166 (k := 3) hR3 (by decide) (by decide) (fun g h2 s' w4 a1 a2 a3 a4 => ?_) (fun g h4 q4 hR4 y3 => ?_)
  · rw [g, if_neg Bool.false_ne_true] at kk
    simp only [pu_s, v168_39, v168_42, v168_43, bo_0, not_true_eq_false, true_and, reduceIte]
    exact kk.2 rfl h2 s' (w3.tr w4) a1 a2 a3 a4
  rw [g, if_pos rfl] at kk
  have w4 := w3.tr (q4.mo (G := PWm m) (fun x j z => NM.p z))
  obtain ⟨r1, r2, r3, r4, r5, r6, r7, r8, r9⟩ := id hR4
  have z0 : gI h4 (m + 52) 0 = nI (vT (nxT p T)) := (q4.i (fun z => by unfold NM at z; omega)).trans ((q3.i (fun z => by unfold NM at z; omega)).trans ((q2.i (fun z => by unfold NM at z; omega)).trans y0))
  have z1 : gI h4 (m + 52) 1 = nI (vT (nxT p (nxT p T))) := (q4.i (fun z => by unfold NM at z; omega)).trans ((q3.i (fun z => by unfold NM at z; omega)).trans y1)
  have z2' : gI h4 (m + 52) 2 = nI (vT (nxT p (nxT p (nxT p T)))) := (q4.i (fun z => by unfold NM at z; omega)).trans y2
  obtain ⟨ad, ea, hX⟩ := r1.tx (q := ((6, 208), "with", 1226)) (w := wWi) (by decide) (by decide +kernel)
  have ea' : gR h4 0 1426 = some ad := ea
  simp only [pu_s, v168_39, v168_44, v168_45, v168_48, v168_49, v168_50, v168_51, v168_52, v168_53, v168_54, v168_56, i10, r3.k0, r3.f25, r3.k52, r3.n52, ib7_0, ib7_1, ib7_2, ib7_3, ib7_4, ib7_5, ib7_6, ib3_0, ib3_1, ib3_2, ib4_0, ib4_1, ib4_2, ib4_3, tc0, tc1, tc2, tc3, tc4, tc5, tc6, z0, ea', vrf_s, not_false_eq_true, true_and, true_or, and_self, reduceIte]
  rw [c165 r3 r4 r5 r6 r7 hX (by decide) (by decide)]
  have add : ∀ (h7 : Hp) (T7 : TKN) (v6 : Nat), Fr (PWm m) h h7 → RM c m p T7 s h7 → gI h7 (m + 52) 1 = nI (vT (nxT p (nxT p T))) → gI h7 (m + 52) 2 = nI (vT (nxT p (nxT p (nxT p T)))) → gI h7 (m + 52) 3 = nI (vT (nxT p (nxT p (nxT p (nxT p T))))) → SOk (sgN s (vT (nxT p T)) (vT (nxT p (nxT p T))) (vT (nxT p (nxT p (nxT p T)))) (vT (nxT p (nxT p (nxT p (nxT p T))))) v6) → GM c m p (true, sgN s (vT (nxT p T)) (vT (nxT p (nxT p T))) (vT (nxT p (nxT p (nxT p T)))) (vT (nxT p (nxT p (nxT p (nxT p T))))) v6, T7) h K → V 168 81 [.ref m, .int (nI (vT (nxT p T))), .int (nI v6)] [] h7 K := fun h7 T7 v6 w7 hR7 a1 a2 a3 hok kk => by
    obtain ⟨r1, r2, r3, r4, r5, r6, r7, r8, r9⟩ := id hR7
    simp only [v168_81, v168_82, v168_83, v168_84, v168_87, v168_88, v168_89, v168_90, v168_93, v168_94, v168_95, v168_96, v168_99, v168_100, v168_101, v168_102, r3.k0, r3.f25, r3.k52, r3.n52, ib7_0, ib7_1, ib7_2, ib7_3, ib7_4, ib7_5, ib7_6, ib3_0, ib3_1, ib3_2, ib4_0, ib4_1, ib4_2, ib4_3, tc0, tc1, tc2, tc3, tc4, tc5, tc6, a1, a2, a3, vrf_s, true_and, true_or, and_self]
    refine c148 r3 r8 r9 g8 (fun h8 q8 hP8 => ?_)
    simp only [pu_n, v168_105, v168_106, bo_1, true_and]
    exact kk.1 rfl h8 (w7.tr (q8.mo (fun x j z => by unfold AX at z; unfold PWm; omega))) (hR7.tk q8 (fun x j z => by unfold AX at z; omega) hP8 hok)
  have hok4 := thT_ok hR.2.2.2.2.2.2.2.2 hR.2.2.2.2.1
  simp only [thT, rd1] at hok4
  rw [if_pos g8] at hok4
  rename_i g1 g2 g3 g4
  simp only [*, reduceIte] at hok4
  cases gw : isW p (nxT p (nxT p (nxT p (nxT p (nxT p T))))) wWi with
  | false =>
    rw [gw, if_neg Bool.false_ne_true] at kk
    rw [gw] at hok4
    simp only [pu_s, v168_59, z2_f, reduceIte]
    exact add h4 _ 0 w4 hR4 z1 z2' y3 hok4.1 kk
  | true =>
    rw [gw, if_pos rfl] at kk
    rw [gw] at hok4
    simp only [pu_s, v168_59, v168_62, v168_63, v168_64, v168_66, z2_t, i10, r3.k0, true_and, reduceIte]
    refine c167 hR4 (by decide) (fun g h2 s' w5 a1 a2 a3 a4 => ?_) (fun g h5 q5 hR5 y6 => ?_)
    · rw [g, if_neg Bool.false_ne_true] at kk
      simp only [pu_s, v168_69, v168_72, v168_73, bo_0, not_true_eq_false, true_and, reduceIte]
      exact kk.2 rfl h2 s' (w4.tr w5) a1 a2 a3 a4
    · rw [g, if_pos rfl] at kk
      simp only [g, reduceIte] at hok4
      obtain ⟨r1, r2, r3, r4, r5, r6, r7, r8, r9⟩ := id hR5
      simp only [pu_s, v168_69, v168_74, v168_75, v168_78, v168_79, v168_80, i10, r3.k0, r3.f25, r3.k52, r3.n52, ib7_0, ib7_1, ib7_2, ib7_3, ib7_4, ib7_5, ib7_6, ib3_0, ib3_1, ib3_2, ib4_0, ib4_1, ib4_2, ib4_3, tc0, tc1, tc2, tc3, tc4, tc5, tc6, y6, vrf_s, not_false_eq_true, true_and, true_or, and_self, reduceIte]
      exact add h5 _ _ (w4.tr (q5.mo (fun x j z => NM.p z))) hR5 ((q5.i (fun z => by unfold NM at z; omega)).trans z1) ((q5.i (fun z => by unfold NM at z; omega)).trans z2') ((q5.i (fun z => by unfold NM at z; omega)).trans y3) hok4.1 kk
/-- a buyer is told -/
theorem c171_b (hR : RM c m p T s h) (g8 : sM s < 24) (kk : GM c m p (byT p s T) h K) : V 171 41 [.ref m] [] h K := by
  have k0 := hR.2.2.1.k0
  simp only [byT, rd1] at kk
  rw [if_pos g8] at kk
  simp only [v171_41, v171_42, v171_43, v171_45, k0, true_and]
  refine c167 hR (by decide) (fun g h2 s' w2 a1 a2 a3 a4 => ?_) (fun g h1 q1 hR1 y0 => ?_)
  · rw [g, if_neg Bool.false_ne_true] at kk
    simp only [pu_s, v171_48, v171_72, v171_73, bo_0, true_and, reduceIte]
    exact kk.2 rfl h2 s' w2 a1 a2 a3 a4
  rw [g, if_pos rfl] at kk
  have hv6 := rdB_s (l := 0) (m := 6) g (nx_ok hR.2.2.2.2.1).1.2.2.2.1 rfl rfl (by decide) (by decide)
  have w1 := q1.mo (G := PWm m) (fun x j z => NM.p z)
  have k0 := hR1.2.2.1.k0
  simp only [pu_s, v171_48, v171_51, v171_52, v171_53, v171_54, v171_55, i10, k0, true_and, reduceIte]
  refine c166 (k := 1) hR1 (by decide) (by decide) (fun g h2 s' w2 a1 a2 a3 a4 => ?_) (fun g h2 q2 hR2 y1 => ?_)
  · rw [g, if_neg Bool.false_ne_true] at kk
    simp only [pu_s, v171_58, v171_72, v171_73, bo_0, true_and, reduceIte]
    exact kk.2 rfl h2 s' (w1.tr w2) a1 a2 a3 a4
  rw [g, if_pos rfl] at kk
  have hv3 := rdB_s (l := 0) (m := 3) g hR1.2.2.2.2.1.2.2.2.1 rfl rfl (by decide) (by decide)
  have w2 := w1.tr (q2.mo (G := PWm m) (fun x j z => NM.p z))
  have k0 := hR2.2.2.1.k0
  simp only [pu_s, v171_58, v171_61, v171_62, v171_63, v171_64, v171_66, i10, k0, true_and, reduceIte]
  refine c166 (k := 2) hR2 (by decide) (by decide) (fun g h2 s' w3 a1 a2 a3 a4 => ?_) (fun g h3 q3 hR3 y2 => ?_)
  · rw [g, if_neg Bool.false_ne_true] at kk
    simp only [pu_s, v171_69, v171_72, v171_73, bo_0, not_true_eq_false, true_and, reduceIte]
    exact kk.2 rfl h2 s' (w2.tr w3) a1 a2 a3 a4
  rw [g, if_pos rfl] at kk
  have hv9 := rdB_s (l := 1) (m := 99) g hR2.2.2.2.2.1.2.2.2.1 rfl rfl (by decide) (by decide)
  have w3 := w2.tr (q3.mo (G := PWm m) (fun x j z => NM.p z))
  obtain ⟨r1, r2, r3, r4, r5, r6, r7, r8, r9⟩ := id hR3
  have z0 : gI h3 (m + 52) 0 = nI (vT (nxT p T)) := (q3.i (fun z => by unfold NM at z; omega)).trans ((q2.i (fun z => by unfold NM at z; omega)).trans y0)
  have z1 : gI h3 (m + 52) 1 = nI (vT (nxT p (nxT p T))) := (q3.i (fun z => by unfold NM at z; omega)).trans y1
  simp only [pu_s, v171_69, v171_74, v171_75, v171_76, v171_79, v171_80, v171_81, v171_82, v171_85, v171_86, v171_87, v171_88, v171_91, v171_92, v171_93, i10, r3.k0, r3.f25, r3.k52, r3.n52, ib7_0, ib7_1, ib7_2, ib7_3, ib7_4, ib7_5, ib7_6, ib3_0, ib3_1, ib3_2, ib4_0, ib4_1, ib4_2, ib4_3, tc0, tc1, tc2, tc3, tc4, tc5, tc6, z0, z1, y2, vrf_s, not_false_eq_true, true_and, true_or, and_self, reduceIte]
  refine c151 r3 r8 r9 g8 hv6.2 (fun h8 q8 hP8 => ?_)
  simp only [pu_s, v171_96, v171_97, v171_98, bo_1, true_and]
  exact kk.1 rfl h8 (w3.tr (q8.mo (fun x j z => by unfold BX at z; unfold PWm; omega))) (hR3.tk q8 (fun x j z => by unfold BX at z; omega) hP8 (r9.buy g8 hv6.2 hv3.2 hv9))
/-- a statement -/
theorem c171 (hR : RM c m p T s h) (kk : GM c m p (stm p s T) h K) : AM 171 [.ref m] h K := by
  obtain ⟨r1, r2, r3, r4, r5, r6, r7, r8, r9⟩ := id hR
  have k0 := r3.k0
  have hn8 := r9.1
  have hm24 := r9.2.1
  have en : (8 ≤ nI (sN s)) = (8 ≤ sN s) := propext (nI_leI (a := 8) (by decide) (by omega))
  have em : (24 ≤ nI (sM s)) = (24 ≤ sM s) := propext (nI_leI (a := 24) (by decide) (by omega))
  obtain ⟨a0, x0, hX0⟩ := r1.tx (q := ((6, 214), "thing", 1203)) (w := wTh) (by decide) (by decide +kernel)
  have x0' : gR h 0 1403 = some a0 := x0
  have st0 : isW p T wTh = false → V 171 0 [.ref m] [] h K = V 171 23 [.ref m] [] h K := fun g => by
    simp only [v171_0, v171_1, v171_3, x0', vrf_s, k0, true_and]
    rw [c165 r3 r4 r5 r6 r7 hX0 (by decide) (by decide), g]
    simp only [pu_s, z2_f, v171_6, reduceIte]
  have go0 : isW p T wTh = true → V 171 0 [.ref m] [] h K = V 171 9 [.ref m] [] h K := fun g => by
    simp only [v171_0, v171_1, v171_3, x0', vrf_s, k0, true_and]
    rw [c165 r3 r4 r5 r6 r7 hX0 (by decide) (by decide), g]
    simp only [pu_s, z2_t, i10, v171_6, reduceIte]
  obtain ⟨a1, x1, hX1⟩ := r1.tx (q := ((6, 218), "buyer", 1227)) (w := wBy) (by decide) (by decide +kernel)
  have x1' : gR h 0 1427 = some a1 := x1
  have st1 : isW p T wBy = false → V 171 23 [.ref m] [] h K = V 171 99 [.ref m] [] h K := fun g => by
    simp only [v171_23, v171_24, v171_26, x1', vrf_s, k0, true_and]
    rw [c165 r3 r4 r5 r6 r7 hX1 (by decide) (by decide), g]
    simp only [pu_s, z2_f, v171_29, reduceIte]
  have go1 : isW p T wBy = true → V 171 23 [.ref m] [] h K = V 171 32 [.ref m] [] h K := fun g => by
    simp only [v171_23, v171_24, v171_26, x1', vrf_s, k0, true_and]
    rw [c165 r3 r4 r5 r6 r7 hX1 (by decide) (by decide), g]
    simp only [pu_s, z2_t, i10, v171_29, reduceIte]
  obtain ⟨a2, x2, hX2⟩ := r1.tx (q := ((6, 219), "mark", 1228)) (w := wMk) (by decide) (by decide +kernel)
  have x2' : gR h 0 1428 = some a2 := x2
  have st2 : isW p T wMk = false → V 171 99 [.ref m] [] h K = V 171 116 [.ref m] [] h K := fun g => by
    simp only [v171_99, v171_100, v171_102, x2', vrf_s, k0, true_and]
    rw [c165 r3 r4 r5 r6 r7 hX2 (by decide) (by decide), g]
    simp only [pu_s, z2_f, v171_105, reduceIte]
  have go2 : isW p T wMk = true → V 171 99 [.ref m] [] h K = V 171 108 [.ref m] [] h K := fun g => by
    simp only [v171_99, v171_100, v171_102, x2', vrf_s, k0, true_and]
    rw [c165 r3 r4 r5 r6 r7 hX2 (by decide) (by decide), g]
    simp only [pu_s, z2_t, i10, v171_105, reduceIte]
  obtain ⟨a3, x3, hX3⟩ := r1.tx (q := ((6, 224), "from", 1233)) (w := wFr) (by decide) (by decide +kernel)
  have x3' : gR h 0 1433 = some a3 := x3
  have st3 : isW p T wFr = false → V 171 116 [.ref m] [] h K = V 171 134 [.ref m] [] h K := fun g => by
    simp only [v171_116, v171_117, v171_119, x3', vrf_s, k0, true_and]
    rw [c165 r3 r4 r5 r6 r7 hX3 (by decide) (by decide), g]
    simp only [pu_s, z2_f, v171_122, reduceIte]
  have go3 : isW p T wFr = true → V 171 116 [.ref m] [] h K = V 171 125 [.ref m] [] h K := fun g => by
    simp only [v171_116, v171_117, v171_119, x3', vrf_s, k0, true_and]
    rw [c165 r3 r4 r5 r6 r7 hX3 (by decide) (by decide), g]
    simp only [pu_s, z2_t, i10, v171_122, reduceIte]
  obtain ⟨a4, x4, hX4⟩ := r1.tx (q := ((6, 225), "feet", 1234)) (w := wFe) (by decide) (by decide +kernel)
  have x4' : gR h 0 1434 = some a4 := x4
  have st4 : isW p T wFe = false → V 171 134 [.ref m] [] h K = V 171 149 [.ref m] [] h K := fun g => by
    simp only [v171_134, v171_135, v171_137, x4', vrf_s, k0, true_and]
    rw [c165 r3 r4 r5 r6 r7 hX4 (by decide) (by decide), g]
    simp only [pu_s, z2_f, v171_140, reduceIte]
  have go4 : isW p T wFe = true → V 171 134 [.ref m] [] h K = V 171 143 [.ref m] [] h K := fun g => by
    simp only [v171_134, v171_135, v171_137, x4', vrf_s, k0, true_and]
    rw [c165 r3 r4 r5 r6 r7 hX4 (by decide) (by decide), g]
    simp only [pu_s, z2_t, i10, v171_140, reduceIte]
  obtain ⟨a5, x5, hX5⟩ := r1.tx (q := ((6, 230), "fall", 1239)) (w := wFa) (by decide) (by decide +kernel)
  have x5' : gR h 0 1439 = some a5 := x5
  have st5 : isW p T wFa = false → V 171 149 [.ref m] [] h K = V 171 164 [.ref m] [] h K := fun g => by
    simp only [v171_149, v171_150, v171_152, x5', vrf_s, k0, true_and]
    rw [c165 r3 r4 r5 r6 r7 hX5 (by decide) (by decide), g]
    simp only [pu_s, z2_f, v171_155, reduceIte]
  have go5 : isW p T wFa = true → V 171 149 [.ref m] [] h K = V 171 158 [.ref m] [] h K := fun g => by
    simp only [v171_149, v171_150, v171_152, x5', vrf_s, k0, true_and]
    rw [c165 r3 r4 r5 r6 r7 hX5 (by decide) (by decide), g]
    simp only [pu_s, z2_t, i10, v171_155, reduceIte]
  obtain ⟨a6, x6, hX6⟩ := r1.tx (q := ((6, 232), "friend", 1240)) (w := wFd) (by decide) (by decide +kernel)
  have x6' : gR h 0 1440 = some a6 := x6
  have st6 : isW p T wFd = false → V 171 164 [.ref m] [] h K = V 171 179 [.ref m] [] h K := fun g => by
    simp only [v171_164, v171_165, v171_167, x6', vrf_s, k0, true_and]
    rw [c165 r3 r4 r5 r6 r7 hX6 (by decide) (by decide), g]
    simp only [pu_s, z2_f, v171_170, reduceIte]
  have go6 : isW p T wFd = true → V 171 164 [.ref m] [] h K = V 171 173 [.ref m] [] h K := fun g => by
    simp only [v171_164, v171_165, v171_167, x6', vrf_s, k0, true_and]
    rw [c165 r3 r4 r5 r6 r7 hX6 (by decide) (by decide), g]
    simp only [pu_s, z2_t, i10, v171_170, reduceIte]
  obtain ⟨a7, x7, hX7⟩ := r1.tx (q := ((6, 234), "tip", 1241)) (w := wTp) (by decide) (by decide +kernel)
  have x7' : gR h 0 1441 = some a7 := x7
  have st7 : isW p T wTp = false → V 171 179 [.ref m] [] h K = V 171 196 [.ref m] [] h K := fun g => by
    simp only [v171_179, v171_180, v171_182, x7', vrf_s, k0, true_and]
    rw [c165 r3 r4 r5 r6 r7 hX7 (by decide) (by decide), g]
    simp only [pu_s, z2_f, v171_185, reduceIte]
  have go7 : isW p T wTp = true → V 171 179 [.ref m] [] h K = V 171 188 [.ref m] [] h K := fun g => by
    simp only [v171_179, v171_180, v171_182, x7', vrf_s, k0, true_and]
    rw [c165 r3 r4 r5 r6 r7 hX7 (by decide) (by decide), g]
    simp only [pu_s, z2_t, i10, v171_185, reduceIte]
  have wr : GM c m p (false, s, T) h K → V 171 196 [.ref m] [] h K := fun kk => by
    simp only [v171_196, v171_197, k0, true_and]
    refine c164 hR (fun h2 s' w2 a1 a2 a3 a4 => ?_)
    simp only [pu_s, v171_200, bo_0, true_and]
    exact kk.2 rfl h2 s' w2 a1 a2 a3 a4
  simp only [e171]
  unfold stm at kk
  cases g0 : isW p T wTh with
  | true =>
    rw [g0, if_pos rfl] at kk
    rw [go0 g0]
    by_cases g8 : sN s < 8
    · have g8' : (8 ≤ sN s) = False := eq_false (by omega)
      simp only [v171_9, v171_10, v171_13, v171_15, v171_18, v171_19, k0, r8.1, en, g8', true_and, reduceIte]
      exact c168 hR g8 ⟨fun hr h2 w2 hR2 => by simp only [pu_s, v171_22, bo_1, true_and]; exact kk.1 hr h2 w2 hR2, fun hr h2 s' w2 a1 a2 a3 a4 => by simp only [pu_s, v171_22, bo_0, true_and]; exact kk.2 hr h2 s' w2 a1 a2 a3 a4⟩
    · have g8' : (8 ≤ sN s) = True := eq_true (by omega)
      have e : thT p s T = (false, s, T) := if_neg g8
      rw [e] at kk
      simp only [v171_9, v171_10, v171_13, v171_15, k0, r8.1, en, g8', true_and, reduceIte]
      rw [st1 (isW_ne g0 (by decide)), st2 (isW_ne g0 (by decide)), st3 (isW_ne g0 (by decide)), st4 (isW_ne g0 (by decide)), st5 (isW_ne g0 (by decide)), st6 (isW_ne g0 (by decide)), st7 (isW_ne g0 (by decide))]
      exact wr kk
  | false =>
    rw [g0, if_neg Bool.false_ne_true] at kk
    rw [st0 g0]
    cases g1 : isW p T wBy with
    | true =>
      rw [g1, if_pos rfl] at kk
      rw [go1 g1]
      by_cases g8 : sM s < 24
      · have g8' : (24 ≤ sM s) = False := eq_false (by omega)
        simp only [v171_32, v171_33, v171_36, v171_38, k0, r8.2.1, em, g8', true_and, reduceIte]
        exact c171_b hR g8 kk
      · have g8' : (24 ≤ sM s) = True := eq_true (by omega)
        have e : byT p s T = (false, s, T) := if_neg g8
        rw [e] at kk
        simp only [v171_32, v171_33, v171_36, v171_38, k0, r8.2.1, em, g8', true_and, reduceIte]
        rw [st2 (isW_ne g1 (by decide)), st3 (isW_ne g1 (by decide)), st4 (isW_ne g1 (by decide)), st5 (isW_ne g1 (by decide)), st6 (isW_ne g1 (by decide)), st7 (isW_ne g1 (by decide))]
        exact wr kk
    | false =>
      rw [g1, if_neg Bool.false_ne_true] at kk
      rw [st1 g1]
      cases g2 : isW p T wMk with
      | true =>
        rw [g2, if_pos rfl] at kk
        rw [go2 g2]
        simp only [v171_108, v171_109, v171_110, v171_112, k0, true_and]
        exact c169 (col := 5) (most := 99) hR (Or.inl ⟨rfl, rfl⟩) (by decide) (by decide) ⟨fun hr h2 w2 hR2 => by simp only [pu_s, v171_115, bo_1, true_and]; exact kk.1 hr h2 w2 hR2, fun hr h2 s' w2 a1 a2 a3 a4 => by simp only [pu_s, v171_115, bo_0, true_and]; exact kk.2 hr h2 s' w2 a1 a2 a3 a4⟩
      | false =>
        rw [g2, if_neg Bool.false_ne_true] at kk
        rw [st2 g2]
        cases g3 : isW p T wFr with
        | true =>
          rw [g3, if_pos rfl] at kk
          rw [go3 g3]
          simp only [v171_125, v171_126, v171_128, v171_130, k0, true_and]
          exact c169 (col := 6) (most := 7) hR (Or.inr ⟨rfl, rfl⟩) (by decide) (by decide) ⟨fun hr h2 w2 hR2 => by simp only [pu_s, v171_133, bo_1, true_and]; exact kk.1 hr h2 w2 hR2, fun hr h2 s' w2 a1 a2 a3 a4 => by simp only [pu_s, v171_133, bo_0, true_and]; exact kk.2 hr h2 s' w2 a1 a2 a3 a4⟩
        | false =>
          rw [g3, if_neg Bool.false_ne_true] at kk
          rw [st3 g3]
          cases g4 : isW p T wFe with
          | true =>
            rw [g4, if_pos rfl] at kk
            rw [go4 g4]
            simp only [v171_143, v171_144, v171_145, k0, true_and]
            exact c170 (w := 0) (l := 1) (u := 30) hR (by decide) (by decide) (by decide) rfl rfl (by decide) (by decide) ⟨fun hr h2 w2 hR2 => by simp only [pu_s, v171_148, bo_1, true_and]; exact kk.1 hr h2 w2 hR2, fun hr h2 s' w2 a1 a2 a3 a4 => by simp only [pu_s, v171_148, bo_0, true_and]; exact kk.2 hr h2 s' w2 a1 a2 a3 a4⟩
          | false =>
            rw [g4, if_neg Bool.false_ne_true] at kk
            rw [st4 g4]
            cases g5 : isW p T wFa with
            | true =>
              rw [g5, if_pos rfl] at kk
              rw [go5 g5]
              simp only [v171_158, v171_159, v171_160, k0, true_and]
              exact c170 (w := 1) (l := 0) (u := 14) hR (by decide) (by decide) (by decide) rfl rfl (by decide) (by decide) ⟨fun hr h2 w2 hR2 => by simp only [pu_s, v171_163, bo_1, true_and]; exact kk.1 hr h2 w2 hR2, fun hr h2 s' w2 a1 a2 a3 a4 => by simp only [pu_s, v171_163, bo_0, true_and]; exact kk.2 hr h2 s' w2 a1 a2 a3 a4⟩
            | false =>
              rw [g5, if_neg Bool.false_ne_true] at kk
              rw [st5 g5]
              cases g6 : isW p T wFd with
              | true =>
                rw [g6, if_pos rfl] at kk
                rw [go6 g6]
                simp only [v171_173, v171_174, v171_175, k0, true_and]
                exact c170 (w := 2) (l := 0) (u := 1) hR (by decide) (by decide) (by decide) rfl rfl (by decide) (by decide) ⟨fun hr h2 w2 hR2 => by simp only [pu_s, v171_178, bo_1, true_and]; exact kk.1 hr h2 w2 hR2, fun hr h2 s' w2 a1 a2 a3 a4 => by simp only [pu_s, v171_178, bo_0, true_and]; exact kk.2 hr h2 s' w2 a1 a2 a3 a4⟩
              | false =>
                rw [g6, if_neg Bool.false_ne_true] at kk
                rw [st6 g6]
                cases g7 : isW p T wTp with
                | true =>
                  rw [g7, if_pos rfl] at kk
                  rw [go7 g7]
                  simp only [v171_188, v171_189, v171_190, k0, true_and]
                  exact c170 (w := 3) (l := 0) (u := 9) hR (by decide) (by decide) (by decide) rfl rfl (by decide) (by decide) ⟨fun hr h2 w2 hR2 => by simp only [pu_s, v171_193, v171_200, bo_1, true_and]; exact kk.1 hr h2 w2 hR2, fun hr h2 s' w2 a1 a2 a3 a4 => by simp only [pu_s, v171_193, v171_200, bo_0, true_and]; exact kk.2 hr h2 s' w2 a1 a2 a3 a4⟩
                | false =>
                  rw [g7, if_neg Bool.false_ne_true] at kk
                  rw [st7 g7]
                  exact wr kk
end
