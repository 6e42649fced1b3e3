/-! THE REFERENCE'S morning: what is on, what is chosen -/
theorem i10 : ((1 : Int32) = 0) = False := eq_false (by decide)
theorem n22 : (nI 2 = 2) = True := eq_true rfl
theorem im1 : ((-1 : Int32) = -1) = True := eq_true rfl
def rmN (s : SG) (sold : Nat → Bool) (hr : Nat) : Nat → Nat
  | 0 => 0
  | t + 1 => rmN s sold hr t + if (!sold t && decide (sT s t 6 ≤ hr) && decide (rmN s sold hr t + sT s t 2 ≤ sA s 0)) = true then sT s t 2 else 0
def onN (s : SG) (sold : Nat → Bool) (hr t : Nat) : Bool := !sold t && decide (sT s t 6 ≤ hr) && decide (rmN s sold hr t + sT s t 2 ≤ sA s 0)
def drN (s : SG) (sold : Nat → Bool) (hr : Nat) : Nat → Nat
  | 0 => 0
  | t + 1 => drN s sold hr t + if onN s sold hr t = true ∧ sT s t 0 = 2 then 1 else 0
theorem rmN_le {s : SG} (sold : Nat → Bool) (hr : Nat) : ∀ t : Nat, rmN s sold hr t ≤ sA s 0
  | 0 => Nat.zero_le _
  | t + 1 => by
    have ih := rmN_le (s := s) sold hr t
    unfold rmN
    split
    · rename_i q
      simp only [Bool.and_eq_true, decide_eq_true_eq] at q
      exact q.2
    · exact ih
theorem drN_le {s : SG} (sold : Nat → Bool) (hr : Nat) : ∀ t : Nat, drN s sold hr t ≤ t
  | 0 => Nat.le_refl _
  | t + 1 => by
    have ih := drN_le (s := s) sold hr t
    unfold drN
    split <;> omega
section
variable {m : Nat} {s : SG} {h : Hp} {K : Option Value → Hp → Prop}
theorem c178_i (hM : MSh m h) (hP : MP m s h) (hO : SOk s) {sold : Nat → Bool} (hS : ∀ t, t < 8 → gI h (m + 53) t = z2 (sold t)) {hr t : Nat} (hh : hr ≤ 6) (ht : t < sN s) (v5 : Value) :
    V 178 7 [.ref m, .int (nI hr), .int (nI (rmN s sold hr t)), .int (nI (drN s sold hr t)), .int (nI t), v5] [] h K = V 178 121 [.ref m, .int (nI hr), .int (nI (rmN s sold hr (t + 1))), .int (nI (drN s sold hr (t + 1))), .int (nI (t + 1)), .ref (m + (18 + t))] [] (pI h (m + 54) t (z2 (onN s sold hr t))) K := by
  have ht8 : t < 8 := Nat.lt_of_lt_of_le ht hO.1
  obtain ⟨t1, t2, t3⟩ := hM.th ht8
  have c1 : (nI t).toNatClampNeg = t := nIc (by omega)
  have i1 : inb (nI t) 8 = True := nIb ht8 (by omega)
  have e9 := hP.1
  have e0 := hP.t ht (k := 0) (by omega)
  have e2 := hP.t ht (k := 2) (by omega)
  have e6 := hP.t ht (k := 6) (by omega)
  have a0 := hP.a (k := 0) (by omega)
  have es := hS t ht8
  have b0 := (hO.2.2.1 t ht).1
  have b2 := (hO.2.2.1 t ht).2.2.2.2.1
  have b6 := (hO.2.2.1 t ht).2.2.2.2.2.2.2.2
  have bf := hO.2.2.2.2.2.2.1
  have bn := hO.1
  have br := rmN_le (s := s) sold hr t
  have bd := drN_le (s := s) sold hr t
  have lt : (nI (sN s) ≤ nI t) = False := eq_false (nI_ge ht (by omega))
  have lf : (nI hr < nI (sT s t 6)) = (hr < sT s t 6) := nltN (by omega) (by omega)
  have lr : (nI (sA s 0) < nI (rmN s sold hr t + sT s t 2)) = (sA s 0 < rmN s sold hr t + sT s t 2) := nltN (by omega) (by omega)
  have l0 : (nI (sT s t 0) = 2) = (sT s t 0 = 2) := (nLit (s := sT s t 0) (by omega)).2.2.1
  have r1 : rmN s sold hr (t + 1) = rmN s sold hr t + if onN s sold hr t = true then sT s t 2 else 0 := rfl
  have d1 : drN s sold hr (t + 1) = drN s sold hr t + if onN s sold hr t = true ∧ sT s t 0 = 2 then 1 else 0 := rfl
  have n0 : ∀ (v : Int32) (k : Nat), gI (pI h (m + 54) t v) (m + (18 + t)) k = gI h (m + (18 + t)) k := fun v k => gI_ne (by omega)
  have z0 : ∀ x : Int32, x + 0 = x := Int32.add_zero
  rw [r1, d1]
  cases hs : sold t with
  | true =>
    have hon : onN s sold hr t = false := by simp [onN, hs]
    simp only [v178_0, v178_1, v178_2, v178_3, v178_4, v178_5, v178_7, v178_9, v178_10, v178_13, v178_16, v178_17, v178_20, v178_22, v178_23, v178_25, v178_26, v178_29, v178_31, v178_32, v178_35, v178_37, v178_38, v178_41, v178_43, v178_45, v178_46, v178_47, v178_50, v178_51, v178_53, v178_54, v178_55, v178_56, v178_57, v178_60, v178_61, v178_62, v178_65, v178_66, v178_69, v178_70, v178_71, v178_72, v178_73, v178_76, v178_78, v178_79, v178_82, v178_84, v178_85, v178_86, v178_89, v178_90, v178_91, v178_92, v178_93, v178_94, v178_97, v178_99, v178_100, v178_103, v178_105, v178_106, v178_107, v178_108, v178_111, v178_112, v178_115, v178_116, v178_117, v178_118, v178_124, v178_125, hM.f0, hM.f1, hM.f2, hM.f3, hM.f4, hM.f5, hM.f6, hM.f8, hM.f10, hM.f12, hM.f13, hM.f25, hM.f27, hM.f28, hM.f36, hM.f37, hM.f38, hM.f40, hM.k0, hM.k1, hM.k2, hM.k3, hM.k4, hM.k13, hM.k14, hM.k15, hM.k16, hM.k17, hM.k26, hM.k51, hM.k52, hM.k53, hM.k54, hM.k55, hM.k56, hM.k57, hM.k58, hM.n1, hM.n2, hM.n3, hM.n4, hM.n13, hM.n14, hM.n15, hM.n16, hM.n17, hM.n26, hM.n51, hM.n52, hM.n53, hM.n54, hM.n55, hM.n56, hM.n57, hM.n58, vrf_s, true_or, or_true, true_and, and_true, and_self, not_false_eq_true, ib7_0, ib7_1, ib7_2, ib7_3, ib7_4, ib7_5, ib7_6, ib3_0, ib3_1, ib3_2, ib4_0, ib4_1, ib4_2, ib4_3, tc0, tc1, tc2, tc3, tc4, tc5, tc6, gI_pJ, gI_pR, gJ_pI, gJ_pR, gR_pI, gR_pJ, gK_pI, gK_pJ, gK_pR, gN_pI, gN_pJ, gN_pR, gX_pI, gX_pJ, gX_pR, gS_pI, gS_pJ, gS_pR, gK_cpI, gN_cpI, gK_cpJ, gN_cpJ, gR_cpI, gR_cpJ, gJ_cpI, gI_cpJ, t1, t2, t3, c1, i1, e9, lt, reduceIte, e0, e2, e6, a0, es, hs, z2_t, z2_f, i10, n22, not_true_eq_false, lf, lr, l0, gI_at, n0, hon, nI_1, z0, Bool.false_eq_true, false_and, Nat.add_zero]
  | false =>
    by_cases h2 : sT s t 6 ≤ hr
    · by_cases h3 : rmN s sold hr t + sT s t 2 ≤ sA s 0
      · have hon : onN s sold hr t = true := by simp [onN, hs, h2, h3]
        by_cases h4 : sT s t 0 = 2
        · simp only [v178_0, v178_1, v178_2, v178_3, v178_4, v178_5, v178_7, v178_9, v178_10, v178_13, v178_16, v178_17, v178_20, v178_22, v178_23, v178_25, v178_26, v178_29, v178_31, v178_32, v178_35, v178_37, v178_38, v178_41, v178_43, v178_45, v178_46, v178_47, v178_50, v178_51, v178_53, v178_54, v178_55, v178_56, v178_57, v178_60, v178_61, v178_62, v178_65, v178_66, v178_69, v178_70, v178_71, v178_72, v178_73, v178_76, v178_78, v178_79, v178_82, v178_84, v178_85, v178_86, v178_89, v178_90, v178_91, v178_92, v178_93, v178_94, v178_97, v178_99, v178_100, v178_103, v178_105, v178_106, v178_107, v178_108, v178_111, v178_112, v178_115, v178_116, v178_117, v178_118, v178_124, v178_125, hM.f0, hM.f1, hM.f2, hM.f3, hM.f4, hM.f5, hM.f6, hM.f8, hM.f10, hM.f12, hM.f13, hM.f25, hM.f27, hM.f28, hM.f36, hM.f37, hM.f38, hM.f40, hM.k0, hM.k1, hM.k2, hM.k3, hM.k4, hM.k13, hM.k14, hM.k15, hM.k16, hM.k17, hM.k26, hM.k51, hM.k52, hM.k53, hM.k54, hM.k55, hM.k56, hM.k57, hM.k58, hM.n1, hM.n2, hM.n3, hM.n4, hM.n13, hM.n14, hM.n15, hM.n16, hM.n17, hM.n26, hM.n51, hM.n52, hM.n53, hM.n54, hM.n55, hM.n56, hM.n57, hM.n58, vrf_s, true_or, or_true, true_and, and_true, and_self, not_false_eq_true, ib7_0, ib7_1, ib7_2, ib7_3, ib7_4, ib7_5, ib7_6, ib3_0, ib3_1, ib3_2, ib4_0, ib4_1, ib4_2, ib4_3, tc0, tc1, tc2, tc3, tc4, tc5, tc6, gI_pJ, gI_pR, gJ_pI, gJ_pR, gR_pI, gR_pJ, gK_pI, gK_pJ, gK_pR, gN_pI, gN_pJ, gN_pR, gX_pI, gX_pJ, gX_pR, gS_pI, gS_pJ, gS_pR, gK_cpI, gN_cpI, gK_cpJ, gN_cpJ, gR_cpI, gR_cpJ, gJ_cpI, gI_cpJ, t1, t2, t3, c1, i1, e9, lt, reduceIte, e0, e2, e6, a0, es, hs, z2_t, z2_f, i10, n22, not_true_eq_false, lf, lr, l0, gI_at, n0, hon, nI_1, nI_add, z0, Nat.not_lt.mpr h2, Nat.not_lt.mpr h3, h4]
        · simp only [v178_0, v178_1, v178_2, v178_3, v178_4, v178_5, v178_7, v178_9, v178_10, v178_13, v178_16, v178_17, v178_20, v178_22, v178_23, v178_25, v178_26, v178_29, v178_31, v178_32, v178_35, v178_37, v178_38, v178_41, v178_43, v178_45, v178_46, v178_47, v178_50, v178_51, v178_53, v178_54, v178_55, v178_56, v178_57, v178_60, v178_61, v178_62, v178_65, v178_66, v178_69, v178_70, v178_71, v178_72, v178_73, v178_76, v178_78, v178_79, v178_82, v178_84, v178_85, v178_86, v178_89, v178_90, v178_91, v178_92, v178_93, v178_94, v178_97, v178_99, v178_100, v178_103, v178_105, v178_106, v178_107, v178_108, v178_111, v178_112, v178_115, v178_116, v178_117, v178_118, v178_124, v178_125, hM.f0, hM.f1, hM.f2, hM.f3, hM.f4, hM.f5, hM.f6, hM.f8, hM.f10, hM.f12, hM.f13, hM.f25, hM.f27, hM.f28, hM.f36, hM.f37, hM.f38, hM.f40, hM.k0, hM.k1, hM.k2, hM.k3, hM.k4, hM.k13, hM.k14, hM.k15, hM.k16, hM.k17, hM.k26, hM.k51, hM.k52, hM.k53, hM.k54, hM.k55, hM.k56, hM.k57, hM.k58, hM.n1, hM.n2, hM.n3, hM.n4, hM.n13, hM.n14, hM.n15, hM.n16, hM.n17, hM.n26, hM.n51, hM.n52, hM.n53, hM.n54, hM.n55, hM.n56, hM.n57, hM.n58, vrf_s, true_or, or_true, true_and, and_true, and_self, not_false_eq_true, ib7_0, ib7_1, ib7_2, ib7_3, ib7_4, ib7_5, ib7_6, ib3_0, ib3_1, ib3_2, ib4_0, ib4_1, ib4_2, ib4_3, tc0, tc1, tc2, tc3, tc4, tc5, tc6, gI_pJ, gI_pR, gJ_pI, gJ_pR, gR_pI, gR_pJ, gK_pI, gK_pJ, gK_pR, gN_pI, gN_pJ, gN_pR, gX_pI, gX_pJ, gX_pR, gS_pI, gS_pJ, gS_pR, gK_cpI, gN_cpI, gK_cpJ, gN_cpJ, gR_cpI, gR_cpJ, gJ_cpI, gI_cpJ, t1, t2, t3, c1, i1, e9, lt, reduceIte, e0, e2, e6, a0, es, hs, z2_t, z2_f, i10, n22, not_true_eq_false, lf, lr, l0, gI_at, n0, hon, nI_1, nI_add, z0, Nat.not_lt.mpr h2, Nat.not_lt.mpr h3, h4, and_false, Nat.add_zero]
      · have hon : onN s sold hr t = false := by simp [onN, h3]
        simp only [v178_0, v178_1, v178_2, v178_3, v178_4, v178_5, v178_7, v178_9, v178_10, v178_13, v178_16, v178_17, v178_20, v178_22, v178_23, v178_25, v178_26, v178_29, v178_31, v178_32, v178_35, v178_37, v178_38, v178_41, v178_43, v178_45, v178_46, v178_47, v178_50, v178_51, v178_53, v178_54, v178_55, v178_56, v178_57, v178_60, v178_61, v178_62, v178_65, v178_66, v178_69, v178_70, v178_71, v178_72, v178_73, v178_76, v178_78, v178_79, v178_82, v178_84, v178_85, v178_86, v178_89, v178_90, v178_91, v178_92, v178_93, v178_94, v178_97, v178_99, v178_100, v178_103, v178_105, v178_106, v178_107, v178_108, v178_111, v178_112, v178_115, v178_116, v178_117, v178_118, v178_124, v178_125, hM.f0, hM.f1, hM.f2, hM.f3, hM.f4, hM.f5, hM.f6, hM.f8, hM.f10, hM.f12, hM.f13, hM.f25, hM.f27, hM.f28, hM.f36, hM.f37, hM.f38, hM.f40, hM.k0, hM.k1, hM.k2, hM.k3, hM.k4, hM.k13, hM.k14, hM.k15, hM.k16, hM.k17, hM.k26, hM.k51, hM.k52, hM.k53, hM.k54, hM.k55, hM.k56, hM.k57, hM.k58, hM.n1, hM.n2, hM.n3, hM.n4, hM.n13, hM.n14, hM.n15, hM.n16, hM.n17, hM.n26, hM.n51, hM.n52, hM.n53, hM.n54, hM.n55, hM.n56, hM.n57, hM.n58, vrf_s, true_or, or_true, true_and, and_true, and_self, not_false_eq_true, ib7_0, ib7_1, ib7_2, ib7_3, ib7_4, ib7_5, ib7_6, ib3_0, ib3_1, ib3_2, ib4_0, ib4_1, ib4_2, ib4_3, tc0, tc1, tc2, tc3, tc4, tc5, tc6, gI_pJ, gI_pR, gJ_pI, gJ_pR, gR_pI, gR_pJ, gK_pI, gK_pJ, gK_pR, gN_pI, gN_pJ, gN_pR, gX_pI, gX_pJ, gX_pR, gS_pI, gS_pJ, gS_pR, gK_cpI, gN_cpI, gK_cpJ, gN_cpJ, gR_cpI, gR_cpJ, gJ_cpI, gI_cpJ, t1, t2, t3, c1, i1, e9, lt, reduceIte, e0, e2, e6, a0, es, hs, z2_t, z2_f, i10, n22, not_true_eq_false, lf, lr, l0, gI_at, n0, hon, nI_1, nI_add, z0, Nat.not_lt.mpr h2, Nat.not_le.mp h3, Bool.false_eq_true, false_and, Nat.add_zero]
    · have hon : onN s sold hr t = false := by simp [onN, h2]
      simp only [v178_0, v178_1, v178_2, v178_3, v178_4, v178_5, v178_7, v178_9, v178_10, v178_13, v178_16, v178_17, v178_20, v178_22, v178_23, v178_25, v178_26, v178_29, v178_31, v178_32, v178_35, v178_37, v178_38, v178_41, v178_43, v178_45, v178_46, v178_47, v178_50, v178_51, v178_53, v178_54, v178_55, v178_56, v178_57, v178_60, v178_61, v178_62, v178_65, v178_66, v178_69, v178_70, v178_71, v178_72, v178_73, v178_76, v178_78, v178_79, v178_82, v178_84, v178_85, v178_86, v178_89, v178_90, v178_91, v178_92, v178_93, v178_94, v178_97, v178_99, v178_100, v178_103, v178_105, v178_106, v178_107, v178_108, v178_111, v178_112, v178_115, v178_116, v178_117, v178_118, v178_124, v178_125, hM.f0, hM.f1, hM.f2, hM.f3, hM.f4, hM.f5, hM.f6, hM.f8, hM.f10, hM.f12, hM.f13, hM.f25, hM.f27, hM.f28, hM.f36, hM.f37, hM.f38, hM.f40, hM.k0, hM.k1, hM.k2, hM.k3, hM.k4, hM.k13, hM.k14, hM.k15, hM.k16, hM.k17, hM.k26, hM.k51, hM.k52, hM.k53, hM.k54, hM.k55, hM.k56, hM.k57, hM.k58, hM.n1, hM.n2, hM.n3, hM.n4, hM.n13, hM.n14, hM.n15, hM.n16, hM.n17, hM.n26, hM.n51, hM.n52, hM.n53, hM.n54, hM.n55, hM.n56, hM.n57, hM.n58, vrf_s, true_or, or_true, true_and, and_true, and_self, not_false_eq_true, ib7_0, ib7_1, ib7_2, ib7_3, ib7_4, ib7_5, ib7_6, ib3_0, ib3_1, ib3_2, ib4_0, ib4_1, ib4_2, ib4_3, tc0, tc1, tc2, tc3, tc4, tc5, tc6, gI_pJ, gI_pR, gJ_pI, gJ_pR, gR_pI, gR_pJ, gK_pI, gK_pJ, gK_pR, gN_pI, gN_pJ, gN_pR, gX_pI, gX_pJ, gX_pR, gS_pI, gS_pJ, gS_pR, gK_cpI, gN_cpI, gK_cpJ, gN_cpJ, gR_cpI, gR_cpJ, gJ_cpI, gI_cpJ, t1, t2, t3, c1, i1, e9, lt, reduceIte, e0, e2, e6, a0, es, hs, z2_t, z2_f, i10, n22, not_true_eq_false, lf, lr, l0, gI_at, n0, hon, nI_1, nI_add, z0, Nat.not_le.mp h2, Bool.false_eq_true, false_and, Nat.add_zero]
theorem c178_l (hM : MSh m h) (hP : MP m s h) (hO : SOk s) {sold : Nat → Bool} (hS : ∀ t, t < 8 → gI h (m + 53) t = z2 (sold t)) {hr : Nat} (hh : hr ≤ 6)
    (kk : ∀ h2, Fr (fun a _ => a = m + 54) h h2 → (∀ t, t < sN s → gI h2 (m + 54) t = z2 (onN s sold hr t)) → K (some (.int (nI (drN s sold hr (sN s))))) h2) :
    ∀ (j t : Nat) (h1 : Hp) (v5 : Value), t + j = sN s → Fr (fun a _ => a = m + 54) h h1 → (∀ u, u < t → gI h1 (m + 54) u = z2 (onN s sold hr u)) → V 178 7 [.ref m, .int (nI hr), .int (nI (rmN s sold hr t)), .int (nI (drN s sold hr t)), .int (nI t), v5] [] h1 K := by
  intro j
  induction j with
  | zero =>
    intro t h1 v5 hi hf hz
    have hn := hO.1
    have hP1 : MP m s h1 := hP.fr hO hf (fun a _ z => by subst z; exact ⟨fun w => by omega, fun w => by omega, fun w => by omega⟩)
    have hM1 : MSh m h1 := hM.fr hf (fun a _ z => by subst z; exact ⟨by omega, fun w => by omega⟩)
    have e : t = sN s := by omega
    subst e
    have e8 : (nI (sN s) ≤ nI (sN s)) = True := eq_true (nI_le (Nat.le_refl _) (by omega))
    simp only [v178_0, v178_1, v178_2, v178_3, v178_4, v178_5, v178_7, v178_9, v178_10, v178_13, v178_16, v178_17, v178_20, v178_22, v178_23, v178_25, v178_26, v178_29, v178_31, v178_32, v178_35, v178_37, v178_38, v178_41, v178_43, v178_45, v178_46, v178_47, v178_50, v178_51, v178_53, v178_54, v178_55, v178_56, v178_57, v178_60, v178_61, v178_62, v178_65, v178_66, v178_69, v178_70, v178_71, v178_72, v178_73, v178_76, v178_78, v178_79, v178_82, v178_84, v178_85, v178_86, v178_89, v178_90, v178_91, v178_92, v178_93, v178_94, v178_97, v178_99, v178_100, v178_103, v178_105, v178_106, v178_107, v178_108, v178_111, v178_112, v178_115, v178_116, v178_117, v178_118, v178_124, v178_125, hM1.k0, hP1.1, e8, reduceIte, true_and]
    exact kk h1 hf hz
  | succ j ih =>
    intro t h1 v5 hi hf hz
    have hP1 : MP m s h1 := hP.fr hO hf (fun a _ z => by subst z; exact ⟨fun w => by omega, fun w => by omega, fun w => by omega⟩)
    have hM1 : MSh m h1 := hM.fr hf (fun a _ z => by subst z; exact ⟨by omega, fun w => by omega⟩)
    have hS1 : ∀ t, t < 8 → gI h1 (m + 53) t = z2 (sold t) := fun t ht => (hf.i (fun z => by omega)).trans (hS t ht)
    rw [c178_i hM1 hP1 hO hS1 hh (by omega) v5, v178_121]
    refine ih (t + 1) _ _ (by omega) (hf.pI rfl) (fun u hu => ?_)
    by_cases e : u = t
    · subst e; exact gI_at _ _ _ _
    · rw [gI_ne (fun z => e z.2)]
      exact hz u (by omega)
/-- findOn -/
theorem c178 (hM : MSh m h) (hP : MP m s h) (hO : SOk s) {sold : Nat → Bool} (hS : ∀ t, t < 8 → gI h (m + 53) t = z2 (sold t)) {hr : Nat} (hh : hr ≤ 6)
    (kk : ∀ h2, Fr (fun a _ => a = m + 54) h h2 → (∀ t, t < sN s → gI h2 (m + 54) t = z2 (onN s sold hr t)) → K (some (.int (nI (drN s sold hr (sN s))))) h2) : AM 178 [.ref m, .int (nI hr)] h K := by
  simp only [e178, v178_0, v178_1, v178_2, v178_3, v178_4, v178_5]
  exact c178_l hM hP hO hS hh kk (sN s) 0 h un0 (Nat.zero_add _) Fr.rf (fun t ht => absurd ht (Nat.not_lt_zero t))
/-- the cap on one thing's pay -/
def cpN (cap : Option (Nat × Nat)) (t v : Nat) : Nat := match cap with
  | none => v
  | some (u, p) => if t = u ∧ p < v then p else v
def pyN (s : SG) (cap : Option (Nat × Nat)) (b t d : Nat) : Nat := cpN cap t (payN (sB s b 1) (sT s t 0) (sT s t 1) (sT s t 4) d)
def oI (o : Option Nat) : Int32 := match o with
  | none => -1
  | some n => nI n
def CP (m : Nat) (cap : Option (Nat × Nat)) (h : Hp) : Prop := gI h m 30 = oI (cap.map (fun q => q.1)) ∧ ∀ q, cap = some q → q.1 < 8 ∧ q.2 ≤ 99 ∧ gI h m 31 = nI q.2
theorem cpN_le {cap : Option (Nat × Nat)} {t v : Nat} : cpN cap t v ≤ v := by
  unfold cpN
  split
  · exact Nat.le_refl _
  · split <;> omega
theorem nm1 {n : Nat} (hn : n < 2 ^ 31) : (nI n = -1) = False := eq_false (fun e => by
  have h1 := nI_pos' hn
  rw [e] at h1
  exact absurd h1 (by decide))
theorem c184 (hM : MSh m h) (hP : MP m s h) (hO : SOk s) {cap : Option (Nat × Nat)} (hc : CP m cap h) {b t d : Nat} (hb : b < sM s) (ht : t < sN s) (hd : d ≤ 8) : AM 184 [.ref m, .int (nI b), .int (nI t), .int (nI d)] h K = K (some (.int (nI (pyN s cap b t d)))) h := by
  have ht8 : t < 8 := Nat.lt_of_lt_of_le ht hO.1
  have hb8 : b < 24 := Nat.lt_of_lt_of_le hb hO.2.1
  obtain ⟨t1, t2, t3⟩ := hM.th ht8
  obtain ⟨u1, u2, u3⟩ := hM.by hb8
  have c1 : (nI t).toNatClampNeg = t := nIc (by omega)
  have c2 : (nI b).toNatClampNeg = b := nIc (by omega)
  have i1 : inb (nI t) 8 = True := nIb ht8 (by omega)
  have i2 : inb (nI b) 24 = True := nIb hb8 (by omega)
  have e0 := hP.t ht (k := 0) (by omega)
  have e1 := hP.t ht (k := 1) (by omega)
  have e4 := hP.t ht (k := 4) (by omega)
  have f1 := hP.b hb (k := 1) (by omega)
  obtain ⟨b0, -, b1, -, -, -, b4, -, -⟩ := hO.2.2.1 t ht
  obtain ⟨-, g1, -, -⟩ := hO.2.2.2.1 b hb
  have pn := paF_N (s := sB s b 1) (k := sT s t 0) (w := sT s t 1) (a := sT s t 4) (d := d) (by omega) (by omega) b1 b4 hd
  have pl := payN_le (s := sB s b 1) (k := sT s t 0) b1 b4 hd
  unfold pyN
  simp only [v184_0, v184_1, v184_4, v184_5, v184_6, v184_7, v184_8, v184_9, v184_12, v184_13, v184_14, v184_15, v184_16, v184_17, v184_20, v184_21, v184_22, v184_23, v184_24, v184_25, v184_28, v184_29, v184_30, v184_31, v184_32, v184_33, v184_36, v184_38, v184_39, v184_40, v184_43, v184_46, v184_48, v184_49, v184_52, v184_55, v184_56, v184_59, v184_62, v184_64, e184, hM.f0, hM.f1, hM.f2, hM.f3, hM.f4, hM.f5, hM.f6, hM.f8, hM.f10, hM.f12, hM.f13, hM.f25, hM.f27, hM.f28, hM.f36, hM.f37, hM.f38, hM.f40, hM.k0, hM.k1, hM.k2, hM.k3, hM.k4, hM.k13, hM.k14, hM.k15, hM.k16, hM.k17, hM.k26, hM.k51, hM.k52, hM.k53, hM.k54, hM.k55, hM.k56, hM.k57, hM.k58, hM.n1, hM.n2, hM.n3, hM.n4, hM.n13, hM.n14, hM.n15, hM.n16, hM.n17, hM.n26, hM.n51, hM.n52, hM.n53, hM.n54, hM.n55, hM.n56, hM.n57, hM.n58, vrf_s, true_or, or_true, true_and, and_true, and_self, not_false_eq_true, ib7_0, ib7_1, ib7_2, ib7_3, ib7_4, ib7_5, ib7_6, ib3_0, ib3_1, ib3_2, ib4_0, ib4_1, ib4_2, ib4_3, tc0, tc1, tc2, tc3, tc4, tc5, tc6, t1, t2, t3, u1, u2, u3, c1, c2, i1, i2, e0, e1, e4, f1, c182, pn, pu_s, hc.1]
  generalize payN (sB s b 1) (sT s t 0) (sT s t 1) (sT s t 4) d = v at pl ⊢
  cases hcp : cap with
  | none =>
    have q : (nI t = -1) = False := nm1 (by omega)
    simp only [Option.map_none, oI, q, not_false_eq_true, reduceIte, cpN]
  | some q =>
    obtain ⟨h1, h2, h3⟩ := hc.2 q hcp
    have q1 : (nI t = nI q.1) = (t = q.1) := neqN (by omega) (by omega)
    have q2 : (nI v ≤ nI q.2) = (v ≤ q.2) := nleN (by omega) (by omega)
    simp only [Option.map_some, oI, q1, h3, q2, cpN]
    by_cases w1 : t = q.1
    · by_cases w2 : v ≤ q.2
      · simp [w1, w2, Nat.not_lt.mpr w2]
      · simp [w1, w2, Nat.not_le.mp w2]
    · simp [w1]
/-- whom a buyer takes: the thing and what is over -/
def chN (on : Nat → Bool) (pr py : Nat → Nat) (pu : Nat) : Nat → Option (Nat × Nat)
  | 0 => none
  | t + 1 => if on t = true ∧ pr t ≤ py t ∧ pr t ≤ pu ∧ (∀ q, chN on pr py pu t = some q → q.2 < py t - pr t) then some (t, py t - pr t) else chN on pr py pu t
theorem chN_lt {on : Nat → Bool} {pr py : Nat → Nat} {pu : Nat} : ∀ (n : Nat) (q : Nat × Nat), chN on pr py pu n = some q → q.1 < n ∧ on q.1 = true ∧ q.2 = py q.1 - pr q.1 ∧ pr q.1 ≤ pu
  | 0, q, hq => by cases hq
  | n + 1, q, hq => by
    unfold chN at hq
    split at hq
    · rename_i w
      cases hq
      exact ⟨Nat.lt_succ_self n, w.1, rfl, w.2.2.1⟩
    · obtain ⟨w1, w2⟩ := chN_lt n q hq
      exact ⟨Nat.lt_succ_of_lt w1, w2⟩
end
