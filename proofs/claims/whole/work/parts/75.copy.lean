/-! COPY, on both sides -/
def cpB (ls lt : Nat) (i j n : Int32) : Bool := inI n 0 40 && inI i 0 (nI ls - n) && inI j 0 (nI lt - n)
def cpF (f g : Nat → Int64) (i j n : Nat) : Nat → Int64 := fun x => if j ≤ x ∧ x < j + n then f (i + (x - j)) else g x
def oCpy (A : XA) (s t i j n : Int32) : XA × Int32 := match rgI 0 7 s with
  | none => rfI A 0 (-2)
  | some a => match rgI 0 7 t with
    | none => rfI A 0 (-2)
    | some c => if isTh (aH A a).1 = true ∨ isTh (aH A c).1 = true then rfI A 1 (-3)
      else if isRw (aH A a).1 = true ∧ isRw (aH A c).1 = true then
        (if (aH A a).1 = (aH A c).1 then
          (if cpB (aH A a).2.1 (aH A c).2.1 i j n = true then (wH A (up (aH A) c ((aH A c).1, (aH A c).2.1, cpF (aH A a).2.2 (aH A c).2.2 i.toNatClampNeg j.toNatClampNeg n.toNatClampNeg)), n) else rfI A 0 (-2))
        else rfI A 1 (-3))
      else rfI A 2 (-4)
theorem oI_eq2 {o p : Option Nat} (ho : ∀ k, o = some k → k < 1000) (hp : ∀ k, p = some k → k < 1000) : (oI o = oI p) = (o = p) := by
  cases p with
  | none =>
    cases o with
    | none => exact propext ⟨fun _ => rfl, fun _ => rfl⟩
    | some y =>
      have := nm1 (n := y) (by have := ho y rfl; omega)
      show (nI y = -1) = _
      rw [this]
      exact propext ⟨fun z => z.elim, fun z => by cases z⟩
  | some k => exact oI_eq ho (hp k rfl)
theorem lsub {a c : Nat} (ha : a ≤ 1000000) (hc : c ≤ 1000000) : (nI a - nI c).toInt = (a : Int) - c := by
  rw [Int32.toInt_sub, nI_toInt (by omega), nI_toInt (by omega)]
  simp only [Int.bmod]
  split <;> omega
theorem cp_i {l c : Nat} {i : Int32} (hl : l ≤ 1000) (hc : c ≤ 1000) (g : inI i 0 (nI l - nI c) = true) : ∃ k, i = nI k ∧ k + c ≤ l := by
  obtain ⟨g1, g2⟩ := inI_t.mp g
  obtain ⟨k, hk, rfl⟩ := nI_of (Int32.not_lt.mpr g1)
  rw [Int32.le_iff_toInt_le, lsub (by omega) (by omega), nI_toInt hk] at g2
  exact ⟨k, rfl, by omega⟩
theorem cp_n {ls lt : Nat} {i j n : Int32} (hs : ls ≤ 40) (ht : lt ≤ 40) (g : cpB ls lt i j n = true) : ∃ n' i' j', n = nI n' ∧ i = nI i' ∧ j = nI j' ∧ n' ≤ 40 ∧ i' + n' ≤ ls ∧ j' + n' ≤ lt := by
  unfold cpB at g
  rw [Bool.and_eq_true, Bool.and_eq_true] at g
  obtain ⟨⟨g1, g2⟩, g3⟩ := g
  obtain ⟨x1, x2⟩ := inI_t.mp g1
  obtain ⟨n', hn, rfl⟩ := nI_of (Int32.not_lt.mpr x1)
  have hn4 : n' ≤ 40 := (nI_leI hn (b := 40) (by decide)).mp x2
  obtain ⟨i', rfl, y1⟩ := cp_i (by omega) (by omega) g2
  obtain ⟨j', rfl, y2⟩ := cp_i (by omega) (by omega) g3
  exact ⟨n', i', j', rfl, rfl, rfl, hn4, y1, y2⟩
theorem cp_iff {ls lt : Nat} {i j n : Int32} (hs : ls ≤ 40) (ht : lt ≤ 40) : cpB ls lt i j n = true ↔ ¬ n < 0 ∧ ¬ i < 0 ∧ ¬ j < 0 ∧ ¬ nI ls < n ∧ ¬ nI lt < n ∧ ¬ nI ls - n < i ∧ j ≤ nI lt - n := by
  constructor
  · intro g
    obtain ⟨n', i', j', rfl, rfl, rfl, hn, h1, h2⟩ := cp_n hs ht g
    refine ⟨Int32.not_lt.mpr (nI_pos' (by omega)), Int32.not_lt.mpr (nI_pos' (by omega)), Int32.not_lt.mpr (nI_pos' (by omega)), Int32.not_lt.mpr (nI_le (by omega) (by omega)), Int32.not_lt.mpr (nI_le (by omega) (by omega)), Int32.not_lt.mpr ?_, ?_⟩
    · rw [Int32.le_iff_toInt_le, lsub (by omega) (by omega), nI_toInt (by omega)]; omega
    · rw [Int32.le_iff_toInt_le, lsub (by omega) (by omega), nI_toInt (by omega)]; omega
  · rintro ⟨g1, g2, g3, g4, g5, g6, g7⟩
    obtain ⟨n', hn, rfl⟩ := nI_of g1
    have h4 : n' ≤ ls := (nI_leI hn (by omega)).mp (Int32.not_lt.mp g4)
    unfold cpB
    rw [Bool.and_eq_true, Bool.and_eq_true]
    exact ⟨⟨inI_t.mpr ⟨nI_pos' hn, nI_le (b := 40) (by omega) (by decide)⟩, inI_t.mpr ⟨Int32.not_lt.mp g2, Int32.not_lt.mp g6⟩⟩, inI_t.mpr ⟨Int32.not_lt.mp g3, g7⟩⟩
section
variable {b m x : Nat} {u : LU} {A : XA} {s : SG} {h h1 h3 : Hp} {K : Option Value → Hp → Prop}
theorem k56 (hC : CL b A h) (hW : WF A) (s t i j n : Int32) (kk : ∀ h2, Fr (CW b) h h2 → CL b (oCpy A s t i j n).1 h2 → K (some (.int (oCpy A s t i j n).2)) h2) : AM 56 [.ref b, .int s, .int t, .int i, .int j, .int n] h K := by
  obtain ⟨⟨cn, kb, f0, f1, f3, f4, f5, f6⟩, hST, hKP, hTR, hTA, ⟨s1, s2, s3⟩, hRF⟩ := id hC
  unfold oCpy at kk
  cases hs : rgI 0 7 s with
  | none =>
    rw [hs] at kk
    simp only [e56, v56_0, v56_1, v56_2, v56_5, v56_8, v56_9, v56_10, v56_13, v56_16, v56_17, v56_19, v56_22, v56_23, v56_24, v56_27, v56_28, v56_29, v56_31, v56_32, v56_35, v56_36, v56_37, v56_39, v56_41, v56_44, v56_47, v56_49, v56_52, v56_55, v56_56, v56_59, v56_60, v56_62, v56_64, v56_67, v56_70, v56_72, v56_75, v56_78, v56_80, v56_83, v56_85, v56_88, v56_90, v56_93, v56_96, v56_97, v56_99, v56_102, v56_103, v56_105, v56_108, v56_109, v56_111, v56_114, v56_115, v56_117, v56_118, v56_120, v56_123, v56_126, v56_127, v56_128, v56_130, v56_133, v56_135, v56_136, v56_139, v56_142, v56_144, v56_145, v56_147, v56_150, v56_152, v56_153, v56_156, v56_159, v56_160, v56_162, v56_165, v56_166, v56_168, v56_171, v56_172, v56_174, v56_177, v56_179, v56_184, v56_186, kb, f0, f1, f3, f4, f5, f6, vrf_s, true_and, true_or, or_true, and_self, not_false_eq_true, pu_s, pu_n, z2_e0, z2_n0, z2_t, z2_f, k110 hC, hs, Option.isSome_none, reduceIte]
    exact k108 (w := 0) hC hW (by decide) (by decide) (fun h2 q2 hC2 => by simp only [pu_s, v56_22]; exact kk h2 q2 hC2)
  | some a =>
    rw [hs] at kk
    cases ht : rgI 0 7 t with
    | none =>
      rw [ht] at kk
      simp only [e56, v56_0, v56_1, v56_2, v56_5, v56_8, v56_9, v56_10, v56_13, v56_16, v56_17, v56_19, v56_22, v56_23, v56_24, v56_27, v56_28, v56_29, v56_31, v56_32, v56_35, v56_36, v56_37, v56_39, v56_41, v56_44, v56_47, v56_49, v56_52, v56_55, v56_56, v56_59, v56_60, v56_62, v56_64, v56_67, v56_70, v56_72, v56_75, v56_78, v56_80, v56_83, v56_85, v56_88, v56_90, v56_93, v56_96, v56_97, v56_99, v56_102, v56_103, v56_105, v56_108, v56_109, v56_111, v56_114, v56_115, v56_117, v56_118, v56_120, v56_123, v56_126, v56_127, v56_128, v56_130, v56_133, v56_135, v56_136, v56_139, v56_142, v56_144, v56_145, v56_147, v56_150, v56_152, v56_153, v56_156, v56_159, v56_160, v56_162, v56_165, v56_166, v56_168, v56_171, v56_172, v56_174, v56_177, v56_179, v56_184, v56_186, kb, f0, f1, f3, f4, f5, f6, vrf_s, true_and, true_or, or_true, and_self, not_false_eq_true, pu_s, pu_n, z2_e0, z2_n0, z2_t, z2_f, k110 hC, hs, ht, Option.isSome_some, i10, Option.isSome_none, reduceIte]
      exact k108 (w := 0) hC hW (by decide) (by decide) (fun h2 q2 hC2 => by simp only [pu_s, v56_22]; exact kk h2 q2 hC2)
    | some c =>
      rw [ht] at kk
      dsimp only at kk
      obtain ⟨rfl, -, hs7⟩ := rgI_s (by decide) (by decide) hs
      obtain ⟨rfl, -, ht7⟩ := rgI_s (by decide) (by decide) ht
      obtain ⟨x1, x2, x3, x4, x5, x6, x7, x8⟩ := s3 a (by omega)
      obtain ⟨y1, y2, y3, y4, y5, y6, y7, y8⟩ := s3 c (by omega)
      have c1 : (nI a).toNatClampNeg = a := nIc (by omega)
      have i1 : inb (nI a) 8 = True := nIb (by omega) (by omega)
      have c2 : (nI c).toNatClampNeg = c := nIc (by omega)
      have i2 : inb (nI c) 8 = True := nIb (by omega) (by omega)
      have hka := hW.2.2.2.2 a (by omega)
      have hkc := hW.2.2.2.2 c (by omega)
      have hba : ∀ k, (aH A a).1 = some k → k < 1000 := fun k hk => by
        have := hka.2 k hk
        have := hW.1.1
        omega
      have hbc : ∀ k, (aH A c).1 = some k → k < 1000 := fun k hk => by
        have := hkc.2 k hk
        have := hW.1.1
        omega
      have r15a : ∀ {K : Option Value → Hp → Prop}, AM 15 [.ref (b + 122 + 2 * a)] h K = K (some (.int (z2 (isRw (aH A a).1)))) h := fun {K} => c15 x2 x6 hba
      have r15c : ∀ {K : Option Value → Hp → Prop}, AM 15 [.ref (b + 122 + 2 * c)] h K = K (some (.int (z2 (isRw (aH A c).1)))) h := fun {K} => c15 y2 y6 hbc
      have r16a : ∀ {K : Option Value → Hp → Prop}, AM 16 [.ref (b + 122 + 2 * a)] h K = K (some (.int (z2 (isTh (aH A a).1)))) h := fun {K} => c16 x2 x6 hba
      have r16c : ∀ {K : Option Value → Hp → Prop}, AM 16 [.ref (b + 122 + 2 * c)] h K = K (some (.int (z2 (isTh (aH A c).1)))) h := fun {K} => c16 y2 y6 hbc
      have pre : ∀ v8, V 56 39 [.ref b, .int (nI a), .int (nI c), .int i, .int j, .int n, .ref (b + 122 + 2 * a), .ref (b + 122 + 2 * c), v8] [] h K = V 56 62 [.ref b, .int (nI a), .int (nI c), .int i, .int j, .int n, .ref (b + 122 + 2 * a), .ref (b + 122 + 2 * c), .int (z2 (isRw (aH A a).1 && isRw (aH A c).1))] [] h K := fun v8 => by
        cases g3 : isRw (aH A a).1 with
        | false => simp only [v56_39, v56_41, v56_44, v56_59, v56_60, x2, y2, r15a, g3, kb, f0, f1, f3, f4, f5, f6, vrf_s, true_and, true_or, or_true, and_self, not_false_eq_true, pu_s, pu_n, z2_e0, z2_n0, z2_t, z2_f, reduceIte, Bool.false_and]
        | true =>
          cases g4 : isRw (aH A c).1 with
          | false => simp only [v56_39, v56_41, v56_44, v56_47, v56_49, v56_52, v56_59, v56_60, x2, y2, r15a, r15c, g3, g4, kb, f0, f1, f3, f4, f5, f6, vrf_s, true_and, true_or, or_true, and_self, not_false_eq_true, pu_s, pu_n, z2_e0, z2_n0, z2_t, z2_f, reduceIte, Bool.and_false, Bool.true_eq_false, i10]
          | true => simp only [v56_39, v56_41, v56_44, v56_47, v56_49, v56_52, v56_55, v56_56, v56_60, x2, y2, r15a, r15c, g3, g4, kb, f0, f1, f3, f4, f5, f6, vrf_s, true_and, true_or, or_true, and_self, not_false_eq_true, pu_s, pu_n, z2_e0, z2_n0, z2_t, z2_f, reduceIte, Bool.and_true, Bool.true_eq_false, i10]
      simp only [e56, v56_0, v56_1, v56_2, v56_5, v56_8, v56_9, v56_10, v56_13, v56_23, v56_24, v56_27, v56_28, v56_29, v56_31, v56_32, v56_35, v56_36, v56_37, kb, f0, f1, f3, f4, f5, f6, vrf_s, true_and, true_or, or_true, and_self, not_false_eq_true, pu_s, pu_n, z2_e0, z2_n0, z2_t, z2_f, k110 hC, hs, ht, Option.isSome_some, i10, reduceIte, s1, s2, c1, i1, c2, i2, x1, y1, pre]
      cases g1 : isTh (aH A a).1 with
      | true =>
        rw [if_pos (Or.inl g1)] at kk
        simp only [v56_62, v56_64, v56_67, v56_96, v56_97, v56_99, x2, y2, r16a, g1, kb, f0, f1, f3, f4, f5, f6, vrf_s, true_and, true_or, or_true, and_self, not_false_eq_true, pu_s, pu_n, z2_e0, z2_n0, z2_t, z2_f, i10, reduceIte]
        exact k108 (w := 1) hC hW (by decide) (by decide) (fun h2 q2 hC2 => by simp only [pu_s, v56_102]; exact kk h2 q2 hC2)
      | false =>
        cases g2 : isTh (aH A c).1 with
        | true =>
          rw [if_pos (Or.inr g2)] at kk
          simp only [v56_62, v56_64, v56_67, v56_70, v56_72, v56_75, v56_96, v56_97, v56_99, x2, y2, r16a, r16c, g1, g2, kb, f0, f1, f3, f4, f5, f6, vrf_s, true_and, true_or, or_true, and_self, not_false_eq_true, pu_s, pu_n, z2_e0, z2_n0, z2_t, z2_f, i10, reduceIte, not_true_eq_false]
          exact k108 (w := 1) hC hW (by decide) (by decide) (fun h2 q2 hC2 => by simp only [pu_s, v56_102]; exact kk h2 q2 hC2)
        | false =>
          rw [if_neg (by rw [g1, g2]; decide)] at kk
          by_cases g5 : isRw (aH A a).1 = true ∧ isRw (aH A c).1 = true
          · rw [if_pos g5] at kk
            have e := oI_eq2 hba hbc
            by_cases g6 : (aH A a).1 = (aH A c).1
            · rw [if_pos g6] at kk
              have e6 : (oI (aH A a).1 = oI (aH A c).1) = True := by rw [g6]; exact eq_true rfl
              simp only [v56_62, v56_64, v56_67, v56_70, v56_72, v56_75, v56_78, v56_80, v56_83, v56_85, v56_88, v56_90, v56_93, v56_103, v56_105, r16a, r16c, g1, g2, g5, kb, f0, f1, f3, f4, f5, f6, vrf_s, true_and, true_or, or_true, and_self, not_false_eq_true, pu_s, pu_n, z2_e0, z2_n0, z2_t, z2_f, i10, reduceIte, not_true_eq_false, Bool.and_true, x2, y2, x6, y6, e6, Bool.true_eq_false]
              unfold cpB at kk
              cases d1 : inI n 0 40 with
              | false =>
                rw [d1, Bool.false_and, Bool.false_and, if_neg Bool.false_ne_true] at kk
                simp only [v56_115, v56_117, v56_118, v56_120, v56_123, v56_159, v56_160, v56_162, c123, d1, kb, f0, f1, f3, f4, f5, f6, vrf_s, true_and, true_or, or_true, and_self, not_false_eq_true, pu_s, pu_n, z2_e0, z2_n0, z2_t, z2_f, reduceIte]
                exact k108 (w := 0) hC hW (by decide) (by decide) (fun h2 q2 hC2 => by simp only [pu_s, v56_165]; exact kk h2 q2 hC2)
              | true =>
                cases d2 : inI i 0 (nI (aH A a).2.1 - n) with
                | false =>
                  rw [d1, d2, Bool.true_and, Bool.false_and, if_neg Bool.false_ne_true] at kk
                  simp only [v56_115, v56_117, v56_118, v56_120, v56_123, v56_126, v56_127, v56_128, v56_130, v56_133, v56_135, v56_136, v56_139, v56_159, v56_160, v56_162, c123, d1, d2, x2, x7, kb, f0, f1, f3, f4, f5, f6, vrf_s, true_and, true_or, or_true, and_self, not_false_eq_true, pu_s, pu_n, z2_e0, z2_n0, z2_t, z2_f, i10, reduceIte]
                  exact k108 (w := 0) hC hW (by decide) (by decide) (fun h2 q2 hC2 => by simp only [pu_s, v56_165]; exact kk h2 q2 hC2)
                | true =>
                  cases d3 : inI j 0 (nI (aH A c).2.1 - n) with
                  | false =>
                    rw [d1, d2, d3, Bool.and_false, if_neg Bool.false_ne_true] at kk
                    simp only [v56_115, v56_117, v56_118, v56_120, v56_123, v56_126, v56_127, v56_128, v56_130, v56_133, v56_135, v56_136, v56_139, v56_142, v56_144, v56_145, v56_147, v56_150, v56_152, v56_153, v56_156, v56_159, v56_160, v56_162, c123, d1, d2, d3, x2, x7, y2, y7, kb, f0, f1, f3, f4, f5, f6, vrf_s, true_and, true_or, or_true, and_self, not_false_eq_true, pu_s, pu_n, z2_e0, z2_n0, z2_t, z2_f, i10, reduceIte, not_true_eq_false]
                    exact k108 (w := 0) hC hW (by decide) (by decide) (fun h2 q2 hC2 => by simp only [pu_s, v56_165]; exact kk h2 q2 hC2)
                  | true =>
                    rw [d1, d2, d3, Bool.and_true, Bool.and_true, if_pos rfl] at kk
                    obtain ⟨n', i', j', rfl, rfl, rfl, hn, h1, h2⟩ := cp_n hka.1 hkc.1 (by unfold cpB; rw [d1, d2, d3]; rfl)
                    have ci : (nI i').toNatClampNeg = i' := nIc (by have := hka.1; omega)
                    have cj : (nI j').toNatClampNeg = j' := nIc (by have := hkc.1; omega)
                    have cn' : (nI n').toNatClampNeg = n' := nIc (by omega)
                    rw [ci, cj, cn'] at kk
                    simp only [v56_115, v56_117, v56_118, v56_120, v56_123, v56_126, v56_127, v56_128, v56_130, v56_133, v56_135, v56_136, v56_139, v56_142, v56_144, v56_145, v56_147, v56_150, v56_152, v56_153, v56_156, v56_166, v56_168, v56_171, v56_172, v56_174, v56_177, v56_179, c123, d1, d2, d3, x2, x3, x7, y2, y3, y7, kb, f0, f1, f3, f4, f5, f6, vrf_s, true_and, true_or, or_true, and_self, not_false_eq_true, pu_s, pu_n, z2_e0, z2_n0, z2_t, z2_f, i10, reduceIte, not_true_eq_false]
                    rw [v56_181 _ _ _ _ _ _ _ _ x4 y4 ⟨Int32.not_lt.mpr (nI_pos' (by have := hka.1; omega)), Int32.not_lt.mpr (nI_pos' (by have := hkc.1; omega)), Int32.not_lt.mpr (nI_pos' (by omega)), by rw [ci, cn', x5]; have := hka.1; omega, by rw [cj, cn', y5]; have := hkc.1; omega⟩]
                    rw [ci, cj, cn']
                    simp only [v56_184, v56_186]
                    have q3 : Fr (fun x _ => x = b + 122 + 2 * c ∨ x = b + 123 + 2 * c) h (cpJ h (b + 123 + 2 * a) i' (b + 123 + 2 * c) j' n') := Fr.rf.cpJ (fun _ _ _ => Or.inr rfl)
                    refine kk _ (q3.mo (fun x j z => by unfold CW; omega)) (hC.uh hW q3 (fun x j z => by omega) (SHC.put ⟨s1, s2, s3⟩ (by omega) q3 y3 y6 y7 (fun x hx => ?_)))
                    show _ = cpF (aH A a).2.2 (aH A c).2.2 i' j' n' x
                    rw [gJ_cpJ]
                    unfold cpF
                    by_cases gx : j' ≤ x ∧ x < j' + n'
                    · rw [if_pos ⟨rfl, gx⟩, if_pos gx]
                      exact x8 _ (by have := hka.1; omega)
                    · rw [if_neg (fun z => gx z.2), if_neg gx]
                      exact y8 x hx
            · rw [if_neg g6] at kk
              have e6 : (oI (aH A a).1 = oI (aH A c).1) = False := by rw [e]; exact eq_false g6
              simp only [v56_62, v56_64, v56_67, v56_70, v56_72, v56_75, v56_78, v56_80, v56_83, v56_85, v56_88, v56_90, v56_93, v56_96, v56_97, v56_99, x2, y2, r16a, r16c, g1, g2, g5, kb, f0, f1, f3, f4, f5, f6, vrf_s, true_and, true_or, or_true, and_self, not_false_eq_true, pu_s, pu_n, z2_e0, z2_n0, z2_t, z2_f, i10, reduceIte, not_true_eq_false, Bool.and_true, x2, y2, x6, y6, e6, Bool.true_eq_false]
              exact k108 (w := 1) hC hW (by decide) (by decide) (fun h2 q2 hC2 => by simp only [pu_s, v56_102]; exact kk h2 q2 hC2)
          · rw [if_neg g5] at kk
            have g7 : (isRw (aH A a).1 && isRw (aH A c).1) = false := by
              rw [← Bool.not_eq_true, Bool.and_eq_true]
              exact g5
            simp only [v56_62, v56_64, v56_67, v56_70, v56_72, v56_75, v56_78, v56_80, v56_103, v56_105, v56_108, v56_109, v56_111, x2, y2, r16a, r16c, g1, g2, g7, kb, f0, f1, f3, f4, f5, f6, vrf_s, true_and, true_or, or_true, and_self, not_false_eq_true, pu_s, pu_n, z2_e0, z2_n0, z2_t, z2_f, i10, reduceIte, not_true_eq_false]
            exact k108 (w := 2) hC hW (by decide) (by decide) (fun h2 q2 hC2 => by simp only [pu_s, v56_114]; exact kk h2 q2 hC2)
theorem k142_1 (hM : MSh m h) {f : Nat → Int64} {a i' n' : Nat} (ha : a < 8) (hi : i' + n' ≤ 40) (hf : ∀ j, j < 40 → gJ h (m + (5 + a)) j = f j) (w2 w4 : Value) (kk : ∀ h2, Fr (fun x _ => x = m + 13) h h2 → (∀ y, y < n' → gJ h2 (m + 13) y = f (i' + y)) → V 142 222 [.ref m, .int (nI a), w2, .int (nI i'), w4, .int (nI n'), .int (nI n')] [] h2 K) :
    ∀ (d x : Nat) (h1 : Hp), x + d = n' → Fr (fun x _ => x = m + 13) h h1 → (∀ y, y < x → gJ h1 (m + 13) y = f (i' + y)) → V 142 191 [.ref m, .int (nI a), w2, .int (nI i'), w4, .int (nI n'), .int (nI x)] [] h1 K := by
  intro d
  induction d with
  | zero =>
    intro x h1 hx hq hz
    have e : x = n' := by omega
    subst e
    have e8 : (nI x ≤ nI x) = True := eq_true (Int32.le_refl _)
    simp only [v142_191, v142_193, v142_195, e8, reduceIte]
    exact kk h1 hq hz
  | succ d ih =>
    intro x h1 hx hq hz
    have e8 : (nI n' ≤ nI x) = False := eq_false (nI_ge (by omega) (by omega))
    have hM1 : MSh m h1 := hM.fr hq (fun a j z => ⟨by omega, fun y => by omega⟩)
    obtain ⟨w1, w2', w3⟩ := hM1.rw ha
    have c1 : (nI a).toNatClampNeg = a := nIc (by omega)
    have i1 : inb (nI a) 8 = True := nIb (by omega) (by omega)
    have c2 : (nI x).toNatClampNeg = x := nIc (by omega)
    have i2 : inb (nI x) 40 = True := nIb (by omega) (by omega)
    have c3 : (nI (i' + x)).toNatClampNeg = i' + x := nIc (by omega)
    have i3 : inb (nI (i' + x)) 40 = True := nIb (by omega) (by omega)
    simp only [v142_191, v142_193, v142_195, v142_198, v142_199, v142_202, v142_204, v142_205, v142_208, v142_209, v142_210, v142_211, v142_213, v142_214, v142_215, v142_216, e8, reduceIte, hM1.k0, hM1.f4, hM1.f3, hM1.k4, hM1.n4, hM1.k13, hM1.n13, vrf_s, w1, w2', w3, c1, i1, c2, i2, nI_add, c3, i3, true_and, true_or, or_true, and_self, nI_1]
    rw [v142_219]
    refine ih (x + 1) _ (by omega) (hq.pJ rfl) (fun y hy => ?_)
    by_cases e : y = x
    · subst e
      rw [gJ_at, hq.j (fun z => by omega)]
      exact hf _ (by omega)
    · rw [gJ_ne (fun z => e z.2)]
      exact hz y (by omega)
theorem k142_2 (hM : MSh m h) {f g : Nat → Int64} {c i' j' n' : Nat} (hc : c < 8) (hj : j' + n' ≤ 40) (hf : ∀ y, y < n' → gJ h (m + 13) y = f (i' + y)) (hg : ∀ j, j < 40 → gJ h (m + (5 + c)) j = g j) (w1 w3 : Value) (kk : ∀ h2, Fr (fun x _ => x = m + (5 + c)) h h2 → (∀ j, j < 40 → gJ h2 (m + (5 + c)) j = cpF f g i' j' n' j) → V 142 257 [.ref m, w1, .int (nI c), w3, .int (nI j'), .int (nI n'), .int (nI n')] [] h2 K) :
    ∀ (d x : Nat) (h1 : Hp), x + d = n' → Fr (fun x _ => x = m + (5 + c)) h h1 → (∀ j, j < 40 → gJ h1 (m + (5 + c)) j = cpF f g i' j' x j) → V 142 225 [.ref m, w1, .int (nI c), w3, .int (nI j'), .int (nI n'), .int (nI x)] [] h1 K := by
  intro d
  induction d with
  | zero =>
    intro x h1 hx hq hz
    have e : x = n' := by omega
    subst e
    have e8 : (nI x ≤ nI x) = True := eq_true (Int32.le_refl _)
    simp only [v142_225, v142_227, v142_229, e8, reduceIte]
    exact kk h1 hq hz
  | succ d ih =>
    intro x h1 hx hq hz
    have e8 : (nI n' ≤ nI x) = False := eq_false (nI_ge (by omega) (by omega))
    have hM1 : MSh m h1 := hM.fr hq (fun a j z => ⟨by omega, fun y => by omega⟩)
    obtain ⟨t1, t2, t3⟩ := hM1.rw hc
    have c1 : (nI c).toNatClampNeg = c := nIc (by omega)
    have i1 : inb (nI c) 8 = True := nIb (by omega) (by omega)
    have c2 : (nI x).toNatClampNeg = x := nIc (by omega)
    have i2 : inb (nI x) 40 = True := nIb (by omega) (by omega)
    have c3 : (nI (j' + x)).toNatClampNeg = j' + x := nIc (by omega)
    have i3 : inb (nI (j' + x)) 40 = True := nIb (by omega) (by omega)
    have ev : gJ h1 (m + 13) x = f (i' + x) := (hq.j (fun z => by omega)).trans (hf x (by omega))
    simp only [v142_225, v142_227, v142_229, v142_232, v142_233, v142_236, v142_237, v142_238, v142_240, v142_242, v142_243, v142_244, v142_247, v142_249, v142_250, v142_251, e8, reduceIte, hM1.k0, hM1.f4, hM1.f3, hM1.k4, hM1.n4, hM1.k13, hM1.n13, vrf_s, t1, t2, t3, c1, i1, c2, i2, nI_add, c3, i3, ev, true_and, true_or, or_true, and_self, nI_1]
    rw [v142_254]
    refine ih (x + 1) _ (by omega) (hq.pJ rfl) (fun y hy => ?_)
    unfold cpF
    by_cases e : y = j' + x
    · subst e
      rw [gJ_at, if_pos ⟨by omega, by omega⟩, show j' + x - j' = x by omega]
    · rw [gJ_ne (fun z => e z.2), hz y hy]
      unfold cpF
      by_cases e2 : j' ≤ y ∧ y < j' + x
      · rw [if_pos e2, if_pos ⟨by omega, by omega⟩]
      · rw [if_neg e2, if_neg (by omega)]
theorem k142_m (hR : MR m u A h) (hW : WF A) {a c : Nat} (ha : a < 8) (hc : c < 8) (i j n : Int32) (v6 : Value) (kk : ∀ h2, MG m h h2 → MR m u (if cpB (aH A a).2.1 (aH A c).2.1 i j n = true then (wH A (up (aH A) c ((aH A c).1, (aH A c).2.1, cpF (aH A a).2.2 (aH A c).2.2 i.toNatClampNeg j.toNatClampNeg n.toNatClampNeg)), n) else rfI A 0 (-2)).1 h2 → K (some (.int (if cpB (aH A a).2.1 (aH A c).2.1 i j n = true then (wH A (up (aH A) c ((aH A c).1, (aH A c).2.1, cpF (aH A a).2.2 (aH A c).2.2 i.toNatClampNeg j.toNatClampNeg n.toNatClampNeg)), n) else rfI A 0 (-2)).2)) h2) :
    V 142 118 [.ref m, .int (nI a), .int (nI c), .int i, .int j, .int n, v6] [] h K := by
  obtain ⟨r0, hM, hpp, hP, hQ, hS, hT, hF, hL⟩ := id hR
  obtain ⟨x1, x2, x3, x4⟩ := hS a ha
  obtain ⟨y1, y2, y3, y4⟩ := hS c hc
  have hka := (hW.2.2.2.2 a ha).1
  have hkc := (hW.2.2.2.2 c hc).1
  have c1 : (nI a).toNatClampNeg = a := nIc (by omega)
  have i1 : inb (nI a) 8 = True := nIb (by omega) (by omega)
  have c2 : (nI c).toNatClampNeg = c := nIc (by omega)
  have i2 : inb (nI c) 8 = True := nIb (by omega) (by omega)
  by_cases g : cpB (aH A a).2.1 (aH A c).2.1 i j n = true
  · simp only [if_pos g] at kk
    obtain ⟨d1, d2, d3, d4, d5, d6, d7⟩ := (cp_iff hka hkc).mp g
    obtain ⟨n', i', j', rfl, rfl, rfl, hn, h1, h2⟩ := cp_n hka hkc g
    simp only [v142_118, v142_120, v142_123, v142_124, v142_127, v142_129, v142_132, v142_134, v142_135, v142_138, v142_139, v142_140, v142_143, v142_145, v142_146, v142_149, v142_150, v142_151, v142_154, v142_155, v142_156, v142_159, v142_160, v142_161, v142_163, v142_164, v142_167, v142_169, v142_170, v142_173, v142_174, v142_175, v142_177, v142_178, v142_188, v142_189, hM.f0, hM.f1, hM.f2, hM.f3, hM.f4, hM.f5, hM.f6, hM.f8, hM.f10, hM.f12, hM.f13, hM.f25, hM.f27, hM.f28, hM.f36, hM.f37, hM.f38, hM.f40, hM.k0, hM.k1, hM.k2, hM.k3, hM.k4, hM.k13, hM.k14, hM.k15, hM.k16, hM.k17, hM.k26, hM.k51, hM.k52, hM.k53, hM.k54, hM.k55, hM.k56, hM.k57, hM.k58, hM.n1, hM.n2, hM.n3, hM.n4, hM.n13, hM.n14, hM.n15, hM.n16, hM.n17, hM.n26, hM.n51, hM.n52, hM.n53, hM.n54, hM.n55, hM.n56, hM.n57, hM.n58, vrf_s, true_or, or_true, true_and, and_true, and_self, not_false_eq_true, pu_s, pu_n, z2_e0, z2_n0, z2_t, z2_f, vrf_s, c1, i1, c2, i2, x3, y3, d1, d2, d3, d4, d5, d6, d7, reduceIte]
    refine k142_1 (f := (aH A a).2.2) hM ha (by omega) x4 _ _ (fun h3 q3 hz => ?_) n' 0 h (Nat.zero_add _) Fr.rf (fun y hy => absurd hy (Nat.not_lt_zero y))
    have hM3 : MSh m h3 := hM.fr q3 (fun a j z => ⟨by omega, fun y => by omega⟩)
    have hS3 : MHS m (aH A) h3 := hS.fr q3 (fun a j z => by omega)
    simp only [v142_222, v142_223]
    refine k142_2 (f := (aH A a).2.2) (g := (aH A c).2.2) (i' := i') hM3 hc (by omega) hz (hS3 c hc).2.2.2 _ _ (fun h4 q4 hz4 => ?_) n' 0 h3 (Nat.zero_add _) Fr.rf (fun j hj => ?_)
    · simp only [v142_257, v142_259]
      have ci : (nI i').toNatClampNeg = i' := nIc (by omega)
      have cj : (nI j').toNatClampNeg = j' := nIc (by omega)
      have cn' : (nI n').toNatClampNeg = n' := nIc (by omega)
      rw [ci, cj, cn'] at kk
      obtain ⟨z1, z2, z3, z4⟩ := hS3 c hc
      have q5 : Fr (fun a j => (m + 1 ≤ a ∧ a ≤ m + 3) ∨ (m + 5 ≤ a ∧ a ≤ m + 14)) h h4 := (q3.mo (fun a j z => by omega)).tr (q4.mo (fun a j z => by omega))
      refine kk h4 (MG.of q5 (fun a j z => by omega)) (hR.uh hW q5 (fun a j z => z) (hS3.put (q4.mo (fun a j z => Or.inr z)) hc ((q4.i (fun z => by omega)).trans z1) (fun k hk => ⟨fun hk2 => (q4.i (fun z => by omega)).trans ((z2 k hk).1 hk2), fun hk2 => (q4.i (fun z => by omega)).trans ((z2 k hk).2 hk2)⟩) ((q4.i (fun z => by omega)).trans z3) hz4))
    · rw [(hS3 c hc).2.2.2 j hj]
      unfold cpF
      rw [if_neg (by omega)]
  · simp only [if_neg g] at kk
    have hd : ¬ (¬ n < 0 ∧ ¬ i < 0 ∧ ¬ j < 0 ∧ ¬ nI (aH A a).2.1 < n ∧ ¬ nI (aH A c).2.1 < n ∧ ¬ nI (aH A a).2.1 - n < i ∧ j ≤ nI (aH A c).2.1 - n) := fun z => g ((cp_iff hka hkc).mpr z)
    have rf : V 142 181 [.ref m, .int (nI a), .int (nI c), .int i, .int j, .int n, v6] [] h K := by
      simp only [v142_181, v142_182, v142_184, hM.k0, true_and]
      exact k134 (w := 0) hR hW (by decide) (by decide) (fun h2 q2 hR2 => by simp only [pu_s, v142_187]; exact kk h2 (MG.of q2 (fun a j z => by omega)) hR2)
    by_cases d1 : n < 0
    · simp only [v142_118, v142_120, v142_123, v142_124, v142_127, v142_129, v142_132, v142_134, v142_135, v142_138, v142_139, v142_140, v142_143, v142_145, v142_146, v142_149, v142_150, v142_151, v142_154, v142_155, v142_156, v142_159, v142_160, v142_161, v142_163, v142_164, v142_167, v142_169, v142_170, v142_173, v142_174, v142_175, v142_177, v142_178, hM.f0, hM.f1, hM.f2, hM.f3, hM.f4, hM.f5, hM.f6, hM.f8, hM.f10, hM.f12, hM.f13, hM.f25, hM.f27, hM.f28, hM.f36, hM.f37, hM.f38, hM.f40, hM.k0, hM.k1, hM.k2, hM.k3, hM.k4, hM.k13, hM.k14, hM.k15, hM.k16, hM.k17, hM.k26, hM.k51, hM.k52, hM.k53, hM.k54, hM.k55, hM.k56, hM.k57, hM.k58, hM.n1, hM.n2, hM.n3, hM.n4, hM.n13, hM.n14, hM.n15, hM.n16, hM.n17, hM.n26, hM.n51, hM.n52, hM.n53, hM.n54, hM.n55, hM.n56, hM.n57, hM.n58, vrf_s, true_or, or_true, true_and, and_true, and_self, not_false_eq_true, pu_s, pu_n, z2_e0, z2_n0, z2_t, z2_f, vrf_s, c1, i1, c2, i2, x3, y3, d1, reduceIte]
      exact rf
    · skip
      by_cases d2 : i < 0
      · simp only [v142_118, v142_120, v142_123, v142_124, v142_127, v142_129, v142_132, v142_134, v142_135, v142_138, v142_139, v142_140, v142_143, v142_145, v142_146, v142_149, v142_150, v142_151, v142_154, v142_155, v142_156, v142_159, v142_160, v142_161, v142_163, v142_164, v142_167, v142_169, v142_170, v142_173, v142_174, v142_175, v142_177, v142_178, hM.f0, hM.f1, hM.f2, hM.f3, hM.f4, hM.f5, hM.f6, hM.f8, hM.f10, hM.f12, hM.f13, hM.f25, hM.f27, hM.f28, hM.f36, hM.f37, hM.f38, hM.f40, hM.k0, hM.k1, hM.k2, hM.k3, hM.k4, hM.k13, hM.k14, hM.k15, hM.k16, hM.k17, hM.k26, hM.k51, hM.k52, hM.k53, hM.k54, hM.k55, hM.k56, hM.k57, hM.k58, hM.n1, hM.n2, hM.n3, hM.n4, hM.n13, hM.n14, hM.n15, hM.n16, hM.n17, hM.n26, hM.n51, hM.n52, hM.n53, hM.n54, hM.n55, hM.n56, hM.n57, hM.n58, vrf_s, true_or, or_true, true_and, and_true, and_self, not_false_eq_true, pu_s, pu_n, z2_e0, z2_n0, z2_t, z2_f, vrf_s, c1, i1, c2, i2, x3, y3, d1, d2, reduceIte]
        exact rf
      · skip
        by_cases d3 : j < 0
        · simp only [v142_118, v142_120, v142_123, v142_124, v142_127, v142_129, v142_132, v142_134, v142_135, v142_138, v142_139, v142_140, v142_143, v142_145, v142_146, v142_149, v142_150, v142_151, v142_154, v142_155, v142_156, v142_159, v142_160, v142_161, v142_163, v142_164, v142_167, v142_169, v142_170, v142_173, v142_174, v142_175, v142_177, v142_178, hM.f0, hM.f1, hM.f2, hM.f3, hM.f4, hM.f5, hM.f6, hM.f8, hM.f10, hM.f12, hM.f13, hM.f25, hM.f27, hM.f28, hM.f36, hM.f37, hM.f38, hM.f40, hM.k0, hM.k1, hM.k2, hM.k3, hM.k4, hM.k13, hM.k14, hM.k15, hM.k16, hM.k17, hM.k26, hM.k51, hM.k52, hM.k53, hM.k54, hM.k55, hM.k56, hM.k57, hM.k58, hM.n1, hM.n2, hM.n3, hM.n4, hM.n13, hM.n14, hM.n15, hM.n16, hM.n17, hM.n26, hM.n51, hM.n52, hM.n53, hM.n54, hM.n55, hM.n56, hM.n57, hM.n58, vrf_s, true_or, or_true, true_and, and_true, and_self, not_false_eq_true, pu_s, pu_n, z2_e0, z2_n0, z2_t, z2_f, vrf_s, c1, i1, c2, i2, x3, y3, d1, d2, d3, reduceIte]
          exact rf
        · skip
          by_cases d4 : nI (aH A a).2.1 < n
          · simp only [v142_118, v142_120, v142_123, v142_124, v142_127, v142_129, v142_132, v142_134, v142_135, v142_138, v142_139, v142_140, v142_143, v142_145, v142_146, v142_149, v142_150, v142_151, v142_154, v142_155, v142_156, v142_159, v142_160, v142_161, v142_163, v142_164, v142_167, v142_169, v142_170, v142_173, v142_174, v142_175, v142_177, v142_178, hM.f0, hM.f1, hM.f2, hM.f3, hM.f4, hM.f5, hM.f6, hM.f8, hM.f10, hM.f12, hM.f13, hM.f25, hM.f27, hM.f28, hM.f36, hM.f37, hM.f38, hM.f40, hM.k0, hM.k1, hM.k2, hM.k3, hM.k4, hM.k13, hM.k14, hM.k15, hM.k16, hM.k17, hM.k26, hM.k51, hM.k52, hM.k53, hM.k54, hM.k55, hM.k56, hM.k57, hM.k58, hM.n1, hM.n2, hM.n3, hM.n4, hM.n13, hM.n14, hM.n15, hM.n16, hM.n17, hM.n26, hM.n51, hM.n52, hM.n53, hM.n54, hM.n55, hM.n56, hM.n57, hM.n58, vrf_s, true_or, or_true, true_and, and_true, and_self, not_false_eq_true, pu_s, pu_n, z2_e0, z2_n0, z2_t, z2_f, vrf_s, c1, i1, c2, i2, x3, y3, d1, d2, d3, d4, reduceIte]
            exact rf
          · skip
            by_cases d5 : nI (aH A c).2.1 < n
            · simp only [v142_118, v142_120, v142_123, v142_124, v142_127, v142_129, v142_132, v142_134, v142_135, v142_138, v142_139, v142_140, v142_143, v142_145, v142_146, v142_149, v142_150, v142_151, v142_154, v142_155, v142_156, v142_159, v142_160, v142_161, v142_163, v142_164, v142_167, v142_169, v142_170, v142_173, v142_174, v142_175, v142_177, v142_178, hM.f0, hM.f1, hM.f2, hM.f3, hM.f4, hM.f5, hM.f6, hM.f8, hM.f10, hM.f12, hM.f13, hM.f25, hM.f27, hM.f28, hM.f36, hM.f37, hM.f38, hM.f40, hM.k0, hM.k1, hM.k2, hM.k3, hM.k4, hM.k13, hM.k14, hM.k15, hM.k16, hM.k17, hM.k26, hM.k51, hM.k52, hM.k53, hM.k54, hM.k55, hM.k56, hM.k57, hM.k58, hM.n1, hM.n2, hM.n3, hM.n4, hM.n13, hM.n14, hM.n15, hM.n16, hM.n17, hM.n26, hM.n51, hM.n52, hM.n53, hM.n54, hM.n55, hM.n56, hM.n57, hM.n58, vrf_s, true_or, or_true, true_and, and_true, and_self, not_false_eq_true, pu_s, pu_n, z2_e0, z2_n0, z2_t, z2_f, vrf_s, c1, i1, c2, i2, x3, y3, d1, d2, d3, d4, d5, reduceIte]
              exact rf
            · skip
              by_cases d6 : nI (aH A a).2.1 - n < i
              · simp only [v142_118, v142_120, v142_123, v142_124, v142_127, v142_129, v142_132, v142_134, v142_135, v142_138, v142_139, v142_140, v142_143, v142_145, v142_146, v142_149, v142_150, v142_151, v142_154, v142_155, v142_156, v142_159, v142_160, v142_161, v142_163, v142_164, v142_167, v142_169, v142_170, v142_173, v142_174, v142_175, v142_177, v142_178, hM.f0, hM.f1, hM.f2, hM.f3, hM.f4, hM.f5, hM.f6, hM.f8, hM.f10, hM.f12, hM.f13, hM.f25, hM.f27, hM.f28, hM.f36, hM.f37, hM.f38, hM.f40, hM.k0, hM.k1, hM.k2, hM.k3, hM.k4, hM.k13, hM.k14, hM.k15, hM.k16, hM.k17, hM.k26, hM.k51, hM.k52, hM.k53, hM.k54, hM.k55, hM.k56, hM.k57, hM.k58, hM.n1, hM.n2, hM.n3, hM.n4, hM.n13, hM.n14, hM.n15, hM.n16, hM.n17, hM.n26, hM.n51, hM.n52, hM.n53, hM.n54, hM.n55, hM.n56, hM.n57, hM.n58, vrf_s, true_or, or_true, true_and, and_true, and_self, not_false_eq_true, pu_s, pu_n, z2_e0, z2_n0, z2_t, z2_f, vrf_s, c1, i1, c2, i2, x3, y3, d1, d2, d3, d4, d5, d6, reduceIte]
                exact rf
              · skip
                by_cases d7 : j ≤ nI (aH A c).2.1 - n
                · exact absurd ⟨d1, d2, d3, d4, d5, d6, d7⟩ hd
                · simp only [v142_118, v142_120, v142_123, v142_124, v142_127, v142_129, v142_132, v142_134, v142_135, v142_138, v142_139, v142_140, v142_143, v142_145, v142_146, v142_149, v142_150, v142_151, v142_154, v142_155, v142_156, v142_159, v142_160, v142_161, v142_163, v142_164, v142_167, v142_169, v142_170, v142_173, v142_174, v142_175, v142_177, v142_178, hM.f0, hM.f1, hM.f2, hM.f3, hM.f4, hM.f5, hM.f6, hM.f8, hM.f10, hM.f12, hM.f13, hM.f25, hM.f27, hM.f28, hM.f36, hM.f37, hM.f38, hM.f40, hM.k0, hM.k1, hM.k2, hM.k3, hM.k4, hM.k13, hM.k14, hM.k15, hM.k16, hM.k17, hM.k26, hM.k51, hM.k52, hM.k53, hM.k54, hM.k55, hM.k56, hM.k57, hM.k58, hM.n1, hM.n2, hM.n3, hM.n4, hM.n13, hM.n14, hM.n15, hM.n16, hM.n17, hM.n26, hM.n51, hM.n52, hM.n53, hM.n54, hM.n55, hM.n56, hM.n57, hM.n58, vrf_s, true_or, or_true, true_and, and_true, and_self, not_false_eq_true, pu_s, pu_n, z2_e0, z2_n0, z2_t, z2_f, vrf_s, c1, i1, c2, i2, x3, y3, d1, d2, d3, d4, d5, d6, d7, reduceIte]
                  exact rf
theorem k142 (hR : MR m u A h) (hW : WF A) (s t i j n : Int32) (kk : ∀ (h2 : Hp) (u2 : LU), MG m h h2 → MR m u2 (oCpy A s t i j n).1 h2 → K (some (.int (oCpy A s t i j n).2)) h2) : AM 142 [.ref m, .int s, .int t, .int i, .int j, .int n] h K := by
  obtain ⟨r0, hM, hpp, hP, hQ, hS, hT, hF, hL⟩ := id hR
  unfold oCpy at kk
  replace kk := fun h2 => kk h2 u
  cases hs : rgI 0 7 s with
  | none =>
    rw [hs] at kk
    simp only [e142, v142_0, v142_1, v142_2, v142_3, v142_6, v142_9, v142_12, v142_13, v142_14, v142_15, v142_18, v142_21, v142_24, v142_25, v142_27, v142_30, v142_31, v142_32, v142_35, v142_36, v142_37, v142_38, v142_41, v142_42, v142_45, v142_46, v142_47, v142_48, v142_51, v142_52, v142_55, v142_56, v142_57, v142_58, v142_61, v142_62, v142_65, v142_66, v142_67, v142_68, v142_71, v142_72, v142_75, v142_76, v142_77, v142_78, v142_81, v142_82, v142_83, v142_86, v142_87, v142_89, v142_92, v142_93, v142_94, v142_97, v142_98, v142_99, v142_102, v142_103, v142_106, v142_107, v142_108, v142_111, v142_112, v142_114, v142_117, v142_118, v142_120, v142_123, v142_124, v142_127, v142_129, v142_132, v142_134, v142_135, v142_138, v142_139, v142_140, v142_143, v142_145, v142_146, v142_149, v142_150, v142_151, v142_154, v142_155, v142_156, v142_159, v142_160, v142_161, v142_163, v142_164, v142_167, v142_169, v142_170, v142_173, v142_174, v142_175, v142_177, v142_178, v142_181, v142_182, v142_184, v142_187, v142_188, v142_189, v142_193, v142_195, v142_198, v142_199, v142_202, v142_204, v142_205, v142_208, v142_209, v142_210, v142_211, v142_213, v142_214, v142_215, v142_216, v142_219, v142_222, v142_223, v142_227, v142_229, v142_232, v142_233, v142_236, v142_237, v142_238, v142_240, v142_242, v142_243, v142_244, v142_247, v142_249, v142_250, v142_251, v142_254, v142_257, v142_259, hM.f0, hM.f1, hM.f2, hM.f3, hM.f4, hM.f5, hM.f6, hM.f8, hM.f10, hM.f12, hM.f13, hM.f25, hM.f27, hM.f28, hM.f36, hM.f37, hM.f38, hM.f40, hM.k0, hM.k1, hM.k2, hM.k3, hM.k4, hM.k13, hM.k14, hM.k15, hM.k16, hM.k17, hM.k26, hM.k51, hM.k52, hM.k53, hM.k54, hM.k55, hM.k56, hM.k57, hM.k58, hM.n1, hM.n2, hM.n3, hM.n4, hM.n13, hM.n14, hM.n15, hM.n16, hM.n17, hM.n26, hM.n51, hM.n52, hM.n53, hM.n54, hM.n55, hM.n56, hM.n57, hM.n58, vrf_s, true_or, or_true, true_and, and_true, and_self, not_false_eq_true, pu_s, pu_n, z2_e0, z2_n0, z2_t, z2_f, c135, rj_0_7, rj_0_4, rj_0_40, rj_0_5, rj_1_99, rj_1_9, rj_0_99, rj_0_9, rj_0_6, rj_0_3, rj_0_255, rj_1_24, rj_3_39, rj_0_1, rj_0_8, rj_0_2, rj_1_30, rj_0_14, rj_12_16, hs, Option.isSome_none, reduceIte]
    exact k134 (w := 0) hR hW (by decide) (by decide) (fun h2 q2 hR2 => by simp only [pu_s, v142_30]; exact kk h2 (MG.of q2 (fun a j z => by omega)) hR2)
  | some a =>
    rw [hs] at kk
    cases ht : rgI 0 7 t with
    | none =>
      rw [ht] at kk
      simp only [e142, v142_0, v142_1, v142_2, v142_3, v142_6, v142_9, v142_12, v142_13, v142_14, v142_15, v142_18, v142_21, v142_24, v142_25, v142_27, v142_30, v142_31, v142_32, v142_35, v142_36, v142_37, v142_38, v142_41, v142_42, v142_45, v142_46, v142_47, v142_48, v142_51, v142_52, v142_55, v142_56, v142_57, v142_58, v142_61, v142_62, v142_65, v142_66, v142_67, v142_68, v142_71, v142_72, v142_75, v142_76, v142_77, v142_78, v142_81, v142_82, v142_83, v142_86, v142_87, v142_89, v142_92, v142_93, v142_94, v142_97, v142_98, v142_99, v142_102, v142_103, v142_106, v142_107, v142_108, v142_111, v142_112, v142_114, v142_117, v142_118, v142_120, v142_123, v142_124, v142_127, v142_129, v142_132, v142_134, v142_135, v142_138, v142_139, v142_140, v142_143, v142_145, v142_146, v142_149, v142_150, v142_151, v142_154, v142_155, v142_156, v142_159, v142_160, v142_161, v142_163, v142_164, v142_167, v142_169, v142_170, v142_173, v142_174, v142_175, v142_177, v142_178, v142_181, v142_182, v142_184, v142_187, v142_188, v142_189, v142_193, v142_195, v142_198, v142_199, v142_202, v142_204, v142_205, v142_208, v142_209, v142_210, v142_211, v142_213, v142_214, v142_215, v142_216, v142_219, v142_222, v142_223, v142_227, v142_229, v142_232, v142_233, v142_236, v142_237, v142_238, v142_240, v142_242, v142_243, v142_244, v142_247, v142_249, v142_250, v142_251, v142_254, v142_257, v142_259, hM.f0, hM.f1, hM.f2, hM.f3, hM.f4, hM.f5, hM.f6, hM.f8, hM.f10, hM.f12, hM.f13, hM.f25, hM.f27, hM.f28, hM.f36, hM.f37, hM.f38, hM.f40, hM.k0, hM.k1, hM.k2, hM.k3, hM.k4, hM.k13, hM.k14, hM.k15, hM.k16, hM.k17, hM.k26, hM.k51, hM.k52, hM.k53, hM.k54, hM.k55, hM.k56, hM.k57, hM.k58, hM.n1, hM.n2, hM.n3, hM.n4, hM.n13, hM.n14, hM.n15, hM.n16, hM.n17, hM.n26, hM.n51, hM.n52, hM.n53, hM.n54, hM.n55, hM.n56, hM.n57, hM.n58, vrf_s, true_or, or_true, true_and, and_true, and_self, not_false_eq_true, pu_s, pu_n, z2_e0, z2_n0, z2_t, z2_f, c135, rj_0_7, rj_0_4, rj_0_40, rj_0_5, rj_1_99, rj_1_9, rj_0_99, rj_0_9, rj_0_6, rj_0_3, rj_0_255, rj_1_24, rj_3_39, rj_0_1, rj_0_8, rj_0_2, rj_1_30, rj_0_14, rj_12_16, hs, ht, Option.isSome_some, i10, Option.isSome_none, reduceIte, not_true_eq_false]
      exact k134 (w := 0) hR hW (by decide) (by decide) (fun h2 q2 hR2 => by simp only [pu_s, v142_30]; exact kk h2 (MG.of q2 (fun a j z => by omega)) hR2)
    | some c =>
      rw [ht] at kk
      dsimp only at kk
      obtain ⟨rfl, -, hs7⟩ := rgI_s (by decide) (by decide) hs
      obtain ⟨rfl, -, ht7⟩ := rgI_s (by decide) (by decide) ht
      obtain ⟨x1, x2, x3, x4⟩ := hS a (by omega)
      obtain ⟨y1, y2, y3, y4⟩ := hS c (by omega)
      have c1 : (nI a).toNatClampNeg = a := nIc (by omega)
      have i1 : inb (nI a) 8 = True := nIb (by omega) (by omega)
      have c2 : (nI c).toNatClampNeg = c := nIc (by omega)
      have i2 : inb (nI c) 8 = True := nIb (by omega) (by omega)
      have thing : isTh (aH A a).1 = true ∨ isTh (aH A c).1 = true → V 142 86 [.ref m, .int (nI a), .int (nI c), .int i, .int j, .int n, un0] [] h K := fun g => by
        rw [if_pos g] at kk
        simp only [v142_86, v142_87, v142_89, hM.k0, true_and]
        exact k134 (w := 1) hR hW (by decide) (by decide) (fun h2 q2 hR2 => by simp only [pu_s, v142_92]; exact kk h2 (MG.of q2 (fun a j z => by omega)) hR2)
      have blank : isTh (aH A a).1 = false → isTh (aH A c).1 = false → ¬ (isRw (aH A a).1 = true ∧ isRw (aH A c).1 = true) → V 142 111 [.ref m, .int (nI a), .int (nI c), .int i, .int j, .int n, un0] [] h K := fun g1 g2 g3 => by
        rw [if_neg (by rw [g1, g2]; decide), if_neg g3] at kk
        simp only [v142_111, v142_112, v142_114, hM.k0, true_and]
        exact k134 (w := 2) hR hW (by decide) (by decide) (fun h2 q2 hR2 => by simp only [pu_s, v142_117]; exact kk h2 (MG.of q2 (fun a j z => by omega)) hR2)
      simp only [e142, v142_0, v142_1, v142_2, v142_3, v142_6, v142_9, v142_12, v142_13, v142_14, v142_15, v142_18, v142_21, hM.f0, hM.f1, hM.f2, hM.f3, hM.f4, hM.f5, hM.f6, hM.f8, hM.f10, hM.f12, hM.f13, hM.f25, hM.f27, hM.f28, hM.f36, hM.f37, hM.f38, hM.f40, hM.k0, hM.k1, hM.k2, hM.k3, hM.k4, hM.k13, hM.k14, hM.k15, hM.k16, hM.k17, hM.k26, hM.k51, hM.k52, hM.k53, hM.k54, hM.k55, hM.k56, hM.k57, hM.k58, hM.n1, hM.n2, hM.n3, hM.n4, hM.n13, hM.n14, hM.n15, hM.n16, hM.n17, hM.n26, hM.n51, hM.n52, hM.n53, hM.n54, hM.n55, hM.n56, hM.n57, hM.n58, vrf_s, true_or, or_true, true_and, and_true, and_self, not_false_eq_true, pu_s, pu_n, z2_e0, z2_n0, z2_t, z2_f, c135, rj_0_7, rj_0_4, rj_0_40, rj_0_5, rj_1_99, rj_1_9, rj_0_99, rj_0_9, rj_0_6, rj_0_3, rj_0_255, rj_1_24, rj_3_39, rj_0_1, rj_0_8, rj_0_2, rj_1_30, rj_0_14, rj_12_16, hs, ht, Option.isSome_some, i10, reduceIte, not_true_eq_false]
      rcases shTri (hW.2.2.2.2 a (by omega)) with ⟨g1, g2, g3, g4⟩ | ⟨k, g1, g1', g2, g3, g4⟩ | ⟨k, g1, g1', g1'', g2, g3, g4⟩
      · rw [g2] at x1
        rcases shTri (hW.2.2.2.2 c (by omega)) with ⟨p1, p2, p3, p4⟩ | ⟨l, p1, p1', p2, p3, p4⟩ | ⟨l, p1, p1', p1'', p2, p3, p4⟩
        · rw [p2] at y1
          simp only [v142_31, v142_32, v142_35, v142_36, v142_37, v142_38, v142_41, v142_42, v142_45, v142_46, v142_47, v142_48, v142_51, v142_52, v142_55, v142_56, v142_57, v142_58, v142_61, v142_62, v142_65, v142_66, v142_67, v142_68, v142_71, v142_72, v142_75, v142_76, v142_77, v142_78, v142_81, v142_82, v142_83, v142_93, v142_94, v142_97, v142_98, v142_99, v142_102, v142_103, v142_106, v142_107, v142_108, hM.k0, hM.f0, hM.k1, hM.n1, vrf_s, c1, i1, c2, i2, x1, y1, q00, q01, q02, q10, q11, q12, q20, q21, q22, true_and, true_or, and_self, reduceIte, not_true_eq_false, not_false_eq_true]
          exact blank g4 p4 (by rw [g3]; simp)
        · rw [p2] at y1
          simp only [v142_31, v142_32, v142_35, v142_36, v142_37, v142_38, v142_41, v142_42, v142_45, v142_46, v142_47, v142_48, v142_51, v142_52, v142_55, v142_56, v142_57, v142_58, v142_61, v142_62, v142_65, v142_66, v142_67, v142_68, v142_71, v142_72, v142_75, v142_76, v142_77, v142_78, v142_81, v142_82, v142_83, v142_93, v142_94, v142_97, v142_98, v142_99, v142_102, v142_103, v142_106, v142_107, v142_108, hM.k0, hM.f0, hM.k1, hM.n1, vrf_s, c1, i1, c2, i2, x1, y1, q00, q01, q02, q10, q11, q12, q20, q21, q22, true_and, true_or, and_self, reduceIte, not_true_eq_false, not_false_eq_true]
          exact blank g4 p4 (by rw [g3]; simp)
        · rw [p2] at y1
          simp only [v142_31, v142_32, v142_35, v142_36, v142_37, v142_38, v142_41, v142_42, v142_45, v142_46, v142_47, v142_48, v142_51, v142_52, v142_55, v142_56, v142_57, v142_58, v142_61, v142_62, v142_65, v142_66, v142_67, v142_68, v142_71, v142_72, v142_75, v142_76, v142_77, v142_78, v142_81, v142_82, v142_83, v142_93, v142_94, v142_97, v142_98, v142_99, v142_102, v142_103, v142_106, v142_107, v142_108, hM.k0, hM.f0, hM.k1, hM.n1, vrf_s, c1, i1, c2, i2, x1, y1, q00, q01, q02, q10, q11, q12, q20, q21, q22, true_and, true_or, and_self, reduceIte, not_true_eq_false, not_false_eq_true]
          exact thing (Or.inr p4)
      · rw [g2] at x1
        rcases shTri (hW.2.2.2.2 c (by omega)) with ⟨p1, p2, p3, p4⟩ | ⟨l, p1, p1', p2, p3, p4⟩ | ⟨l, p1, p1', p1'', p2, p3, p4⟩
        · rw [p2] at y1
          simp only [v142_31, v142_32, v142_35, v142_36, v142_37, v142_38, v142_41, v142_42, v142_45, v142_46, v142_47, v142_48, v142_51, v142_52, v142_55, v142_56, v142_57, v142_58, v142_61, v142_62, v142_65, v142_66, v142_67, v142_68, v142_71, v142_72, v142_75, v142_76, v142_77, v142_78, v142_81, v142_82, v142_83, v142_93, v142_94, v142_97, v142_98, v142_99, v142_102, v142_103, v142_106, v142_107, v142_108, hM.k0, hM.f0, hM.k1, hM.n1, vrf_s, c1, i1, c2, i2, x1, y1, q00, q01, q02, q10, q11, q12, q20, q21, q22, true_and, true_or, and_self, reduceIte, not_true_eq_false, not_false_eq_true]
          exact blank g4 p4 (by rw [p3]; simp)
        · rw [p2] at y1
          have ek := (x2 k g1).1 g1'
          have el := (y2 l p1).1 p1'
          rw [if_neg (by rw [g4, p4]; decide), if_pos ⟨g3, p3⟩] at kk
          have ekl : (nI k = nI l) = (k = l) := neqN (by omega) (by omega)
          by_cases e : k = l
          · rw [if_pos (by rw [g1, p1, e])] at kk
            rw [eq_true e] at ekl
            simp only [v142_31, v142_32, v142_35, v142_36, v142_37, v142_38, v142_41, v142_42, v142_45, v142_46, v142_47, v142_48, v142_51, v142_52, v142_55, v142_56, v142_57, v142_58, v142_61, v142_62, v142_65, v142_66, v142_67, v142_68, v142_71, v142_72, v142_75, v142_76, v142_77, v142_78, v142_81, v142_82, v142_83, v142_93, v142_94, v142_97, v142_98, v142_99, v142_102, v142_103, v142_106, v142_107, v142_108, hM.k0, hM.f0, hM.k1, hM.n1, vrf_s, c1, i1, c2, i2, x1, y1, q00, q01, q02, q10, q11, q12, q20, q21, q22, true_and, true_or, and_self, reduceIte, not_true_eq_false, not_false_eq_true, hM.f1, hM.k2, hM.n2, ek, el, ekl]
            exact k142_m hR hW (by omega) (by omega) i j n _ kk
          · rw [if_neg (by rw [g1, p1]; exact fun z => e (Option.some.inj z))] at kk
            rw [eq_false e] at ekl
            simp only [v142_31, v142_32, v142_35, v142_36, v142_37, v142_38, v142_41, v142_42, v142_45, v142_46, v142_47, v142_48, v142_51, v142_52, v142_55, v142_56, v142_57, v142_58, v142_61, v142_62, v142_65, v142_66, v142_67, v142_68, v142_71, v142_72, v142_75, v142_76, v142_77, v142_78, v142_81, v142_82, v142_83, v142_93, v142_94, v142_97, v142_98, v142_99, v142_102, v142_103, v142_106, v142_107, v142_108, hM.k0, hM.f0, hM.k1, hM.n1, vrf_s, c1, i1, c2, i2, x1, y1, q00, q01, q02, q10, q11, q12, q20, q21, q22, true_and, true_or, and_self, reduceIte, not_true_eq_false, not_false_eq_true, hM.f1, hM.k2, hM.n2, ek, el, ekl, v142_86, v142_87, v142_89]
            exact k134 (w := 1) hR hW (by decide) (by decide) (fun h2 q2 hR2 => by simp only [pu_s, v142_92]; exact kk h2 (MG.of q2 (fun a j z => by omega)) hR2)
        · rw [p2] at y1
          simp only [v142_31, v142_32, v142_35, v142_36, v142_37, v142_38, v142_41, v142_42, v142_45, v142_46, v142_47, v142_48, v142_51, v142_52, v142_55, v142_56, v142_57, v142_58, v142_61, v142_62, v142_65, v142_66, v142_67, v142_68, v142_71, v142_72, v142_75, v142_76, v142_77, v142_78, v142_81, v142_82, v142_83, v142_93, v142_94, v142_97, v142_98, v142_99, v142_102, v142_103, v142_106, v142_107, v142_108, hM.k0, hM.f0, hM.k1, hM.n1, vrf_s, c1, i1, c2, i2, x1, y1, q00, q01, q02, q10, q11, q12, q20, q21, q22, true_and, true_or, and_self, reduceIte, not_true_eq_false, not_false_eq_true]
          exact thing (Or.inr p4)
      · rw [g2] at x1
        simp only [v142_31, v142_32, v142_35, v142_36, v142_37, v142_38, v142_41, v142_42, v142_45, v142_46, v142_47, v142_48, v142_51, v142_52, v142_55, v142_56, v142_57, v142_58, v142_61, v142_62, v142_65, v142_66, v142_67, v142_68, v142_71, v142_72, v142_75, v142_76, v142_77, v142_78, v142_81, v142_82, v142_83, v142_93, v142_94, v142_97, v142_98, v142_99, v142_102, v142_103, v142_106, v142_107, v142_108, hM.k0, hM.f0, hM.k1, hM.n1, vrf_s, c1, i1, c2, i2, x1, y1, q00, q01, q02, q10, q11, q12, q20, q21, q22, true_and, true_or, and_self, reduceIte, not_true_eq_false, not_false_eq_true]
        exact thing (Or.inl g4)
end
