/-! A MORNING in numbers, and the reference's goesBy -/
abbrev MS : Type := (Nat → Bool) × Nat × (Nat → Bool) × (Nat → Option Nat) × (Nat → Nat)
def mS (M : MS) : Nat → Bool := M.1
def mK (M : MS) : Nat := M.2.1
def mC (M : MS) : Nat → Bool := M.2.2.1
def mB (M : MS) : Nat → Option Nat := M.2.2.2.1
def mD (M : MS) : Nat → Nat := M.2.2.2.2
/-- from which hour it rains, a cap on one thing's pay, an offer (who, what, how much), a thing at home -/
abbrev PR : Type := Nat × Option (Nat × Nat) × Option (Nat × Nat × Nat) × Option Nat
def pR0 (π : PR) : Nat := π.1
def pCap (π : PR) : Option (Nat × Nat) := π.2.1
def pOff (π : PR) : Option (Nat × Nat × Nat) := π.2.2.1
def pHm (π : PR) : Option Nat := π.2.2.2
def up {α : Type} (f : Nat → α) (i : Nat) (v : α) : Nat → α := fun j => if j = i then v else f j
theorem up_at {α : Type} (f : Nat → α) (i : Nat) (v : α) : up f i v i = v := if_pos rfl
theorem up_ne {α : Type} {f : Nat → α} {i j : Nat} {v : α} (hj : j ≠ i) : up f i v j = f j := if_neg hj
def offQ (π : PR) (b : Nat) : Option (Nat × Nat) := match pOff π with
  | none => none
  | some q => if q.1 = b then some q.2 else none
def frN (s : SG) (M : MS) (b : Nat) : Bool := decide (sA s 2 = 1) || (decide (0 < b) && mC M (b - 1) && (mB M (b - 1)).isSome)
def coN (s : SG) (π : PR) (M : MS) (b : Nat) : Bool := decide (sB s b 0 < pR0 π) && (decide (sB s b 1 ≠ 2) || frN s M b)
def tkN (s : SG) (π : PR) (M : MS) (b : Nat) : Option Nat := match offQ π b with
  | some q => some q.1
  | none => (chN (onN s (mS M) (sB s b 0)) (fun t => prN s t (sB s b 0)) (fun t => pyN s (pCap π) b t (drN s (mS M) (sB s b 0) (sN s))) (sB s b 2) (sN s)).map (fun q => q.1)
def pdN (s : SG) (π : PR) (b t : Nat) : Nat := match offQ π b with
  | some q => q.2
  | none => prN s t (sB s b 0)
def moT (s : SG) (π : PR) (M : MS) (b : Nat) (o : Option Nat) : MS := match o with
  | some t => (up (mS M) t true, mK M + pdN s π b t, up (mC M) b true, up (mB M) b (some t), up (mD M) b (pdN s π b t))
  | none => (mS M, mK M, up (mC M) b true, up (mB M) b none, up (mD M) b 0)
def moS (s : SG) (π : PR) (M : MS) (b : Nat) : MS := if coN s π M b = true then moT s π M b (tkN s π M b) else (mS M, mK M, up (mC M) b false, up (mB M) b none, up (mD M) b 0)
def mo (s : SG) (π : PR) : Nat → MS
  | 0 => (fun t => decide (pHm π = some t), 0, fun _ => false, fun _ => none, fun _ => 0)
  | b + 1 => moS s π (mo s π b) b
/-- the parameters keep their bounds -/
def POk (s : SG) (π : PR) : Prop := pR0 π ≤ 7 ∧ (∀ q, pCap π = some q → q.1 < 8 ∧ q.2 ≤ 99) ∧ (∀ q, pOff π = some q → q.1 < 24 ∧ q.2.1 < sN s ∧ q.2.2 ≤ 99) ∧ ∀ t, pHm π = some t → t < sN s
theorem pdN_le {s : SG} {π : PR} (hO : SOk s) (hp : POk s π) {b t : Nat} (ht : t < sN s) : pdN s π b t ≤ 99 := by
  unfold pdN offQ
  cases ho : pOff π with
  | none => exact prN_le hO ht
  | some q =>
    dsimp only
    by_cases hb : q.1 = b
    · rw [if_pos hb]
      exact (hp.2.2.1 q ho).2.2
    · rw [if_neg hb]
      exact prN_le hO ht
theorem tkN_lt {s : SG} {π : PR} (hp : POk s π) {M : MS} {b t : Nat} (h : tkN s π M b = some t) : t < sN s := by
  unfold tkN at h
  cases ho : offQ π b with
  | some q =>
    rw [ho] at h
    cases h
    unfold offQ at ho
    cases hq : pOff π with
    | none => rw [hq] at ho; cases ho
    | some w =>
      rw [hq] at ho
      dsimp only at ho
      split at ho
      · cases ho; exact (hp.2.2.1 w hq).2.1
      · cases ho
  | none =>
    rw [ho] at h
    dsimp only at h
    cases hc : chN (onN s (mS M) (sB s b 0)) (fun t => prN s t (sB s b 0)) (fun t => pyN s (pCap π) b t (drN s (mS M) (sB s b 0) (sN s))) (sB s b 2) (sN s) with
    | none => rw [hc] at h; cases h
    | some q =>
      rw [hc] at h
      cases h
      exact (chN_lt _ _ hc).1
theorem mo_le {s : SG} {π : PR} (hO : SOk s) (hp : POk s π) : ∀ b : Nat, mK (mo s π b) ≤ 99 * b
  | 0 => Nat.le_refl _
  | b + 1 => by
    have ih := mo_le hO hp b
    show mK (moS s π (mo s π b) b) ≤ _
    unfold moS
    split
    · unfold moT
      split
      · rename_i t ht
        have := pdN_le hO hp (b := b) (tkN_lt hp ht)
        show mK (mo s π b) + pdN s π b t ≤ _
        omega
      · show mK (mo s π b) ≤ _
        omega
    · show mK (mo s π b) ≤ _
      omega
/-- the parameters in the reference -/
def PP (m : Nat) (π : PR) (h : Hp) : Prop := gI h m 29 = nI (pR0 π) ∧ CP m (pCap π) h ∧ gI h m 32 = oI ((pOff π).map (fun q => q.1)) ∧ (∀ q, pOff π = some q → gI h m 33 = nI q.2.1 ∧ gI h m 34 = nI q.2.2) ∧ gI h m 35 = oI (pHm π)
/-- the morning in the reference, up to the buyer b -/
def DP (m : Nat) (M : MS) (b : Nat) (h : Hp) : Prop := (∀ t, t < 8 → gI h (m + 53) t = z2 (mS M t)) ∧ gI h m 39 = nI (mK M) ∧ ∀ u, u < b → gI h (m + 55) u = z2 (mC M u) ∧ gI h (m + 56) u = oI (mB M u) ∧ gI h (m + 57) u = nI (mD M u) ∧ ∀ t, mB M u = some t → t < 8
/-- what a morning writes -/
def DW (m : Nat) (a j : Nat) : Prop := (m + 53 ≤ a ∧ a ≤ m + 57) ∨ (a = m ∧ j = 39)
section
variable {m : Nat} {s : SG} {π : PR} {h h1 : Hp} {K : Option Value → Hp → Prop}
theorem MSh.dw (hM : MSh m h) (q : Fr (DW m) h h1) : MSh m h1 := hM.fr q (fun a j z => by
  unfold DW at z
  refine ⟨by omega, fun w => ?_⟩
  have h39 : j = 39 := by omega
  rw [h39] at w
  exact absurd w.2 (by decide))
theorem MP.dw (hP : MP m s h) (hO : SOk s) (q : Fr (DW m) h h1) : MP m s h1 := hP.fr hO q (fun a j z => by unfold DW at z; exact ⟨fun w => by omega, fun w => by omega, fun w => by omega⟩)
theorem PP.fr {F : Nat → Nat → Prop} (hp : PP m π h) (q : Fr F h h1) (hF : ∀ j, 29 ≤ j → j ≤ 35 → ¬ F m j) : PP m π h1 := by
  obtain ⟨p1, ⟨p2, p3⟩, p4, p5, p6⟩ := hp
  exact ⟨(q.i (hF _ (by omega) (by omega))).trans p1, ⟨(q.i (hF _ (by omega) (by omega))).trans p2, fun w hw => ⟨(p3 w hw).1, (p3 w hw).2.1, (q.i (hF _ (by omega) (by omega))).trans (p3 w hw).2.2⟩⟩, (q.i (hF _ (by omega) (by omega))).trans p4, fun w hw => ⟨(q.i (hF _ (by omega) (by omega))).trans (p5 w hw).1, (q.i (hF _ (by omega) (by omega))).trans (p5 w hw).2⟩, (q.i (hF _ (by omega) (by omega))).trans p6⟩
theorem PP.dw (hp : PP m π h) (q : Fr (DW m) h h1) : PP m π h1 := hp.fr q (fun j h1 h2 z => by unfold DW at z; omega)
theorem n_le0 {b : Nat} (hb : b < 2 ^ 31) : (nI b ≤ 0) = (b = 0) := by
  have := nleN (a := b) (c := 0) hb (by decide)
  rw [show nI 0 = 0 from rfl] at this
  rw [this]
  exact propext ⟨fun h => by omega, fun h => by omega⟩
theorem n11 : (nI 1 = 1) = True := eq_true rfl
theorem n00 : (nI 0 ≤ 0) = True := eq_true (by decide)
theorem nb1 (b : Bool) : (z2 b = 1) = (b = true) := z2_e1 b
/-- whether a friend lets one come -/
theorem c186_f (hM : MSh m h) (hP : MP m s h) (hO : SOk s) {M : MS} {b : Nat} (hb : b < sM s) (hD : DP m M b h) (many : Int32) (v3 v4 v5 v6 : Value) :
    V 186 34 [.ref m, .int many, .int (nI b), v3, v4, v5, v6] [] h K = V 186 76 [.ref m, .int many, .int (nI b), v3, v4, v5, v6] [.int (z2 (frN s M b))] h K := by
  have hb8 : b < 24 := Nat.lt_of_lt_of_le hb hO.2.1
  have a2 := hP.a (k := 2) (by omega)
  have q2 : (nI (sA s 2) = 1) = (sA s 2 = 1) := (nLit (s := sA s 2) (by have := hO.2.2.2.2.2.2.2.2.1; omega)).2.1
  have q0 : (nI b ≤ 0) = (b = 0) := n_le0 (by omega)
  unfold frN
  by_cases g1 : sA s 2 = 1
  · simp only [v186_0, v186_1, v186_4, v186_5, v186_6, v186_9, v186_10, v186_13, v186_14, v186_17, v186_18, v186_21, v186_22, v186_25, v186_26, v186_27, v186_28, v186_29, v186_30, v186_31, v186_34, v186_35, v186_38, v186_39, v186_40, v186_41, v186_44, v186_45, v186_48, v186_49, v186_52, v186_53, v186_54, v186_55, v186_56, v186_59, v186_60, v186_63, v186_64, v186_65, v186_66, v186_67, v186_68, v186_71, v186_72, v186_75, v186_77, v186_78, v186_81, v186_82, v186_83, v186_86, v186_87, v186_88, v186_89, v186_90, v186_91, v186_94, v186_97, v186_98, v186_101, v186_102, v186_103, v186_104, v186_105, v186_106, v186_109, v186_110, v186_113, v186_114, v186_117, v186_118, v186_119, v186_120, v186_123, v186_124, v186_125, v186_126, v186_127, v186_130, v186_131, v186_132, v186_133, v186_134, v186_137, v186_138, v186_139, v186_142, v186_143, v186_144, v186_147, v186_148, v186_149, v186_150, v186_151, v186_154, v186_156, v186_157, v186_158, v186_161, v186_164, v186_165, v186_168, v186_169, v186_171, v186_173, v186_176, v186_177, v186_180, v186_183, v186_184, v186_185, v186_187, v186_190, v186_192, v186_194, v186_195, v186_198, v186_199, v186_202, v186_203, v186_205, v186_206, v186_207, v186_210, v186_211, v186_213, v186_216, v186_217, v186_220, v186_223, v186_224, v186_226, v186_227, v186_230, v186_231, v186_232, v186_233, v186_234, v186_237, v186_238, v186_239, v186_242, v186_244, v186_245, v186_246, v186_247, v186_248, v186_251, v186_252, v186_255, v186_256, v186_257, v186_258, v186_261, v186_267, hM.f0, hM.f1, hM.f2, hM.f3, hM.f4, hM.f5, hM.f6, hM.f8, hM.f10, hM.f12, hM.f13, hM.f25, hM.f27, hM.f28, hM.f36, hM.f37, hM.f38, hM.f40, hM.k0, hM.k1, hM.k2, hM.k3, hM.k4, hM.k13, hM.k14, hM.k15, hM.k16, hM.k17, hM.k26, hM.k51, hM.k52, hM.k53, hM.k54, hM.k55, hM.k56, hM.k57, hM.k58, hM.n1, hM.n2, hM.n3, hM.n4, hM.n13, hM.n14, hM.n15, hM.n16, hM.n17, hM.n26, hM.n51, hM.n52, hM.n53, hM.n54, hM.n55, hM.n56, hM.n57, hM.n58, vrf_s, true_or, or_true, true_and, and_true, and_self, not_false_eq_true, ib7_0, ib7_1, ib7_2, ib7_3, ib7_4, ib7_5, ib7_6, ib3_0, ib3_1, ib3_2, ib4_0, ib4_1, ib4_2, ib4_3, tc0, tc1, tc2, tc3, tc4, tc5, tc6, a2, q2, g1, n11, reduceIte, decide_true, Bool.true_or, z2_t]
  · by_cases g2 : b = 0
    · simp only [v186_0, v186_1, v186_4, v186_5, v186_6, v186_9, v186_10, v186_13, v186_14, v186_17, v186_18, v186_21, v186_22, v186_25, v186_26, v186_27, v186_28, v186_29, v186_30, v186_31, v186_34, v186_35, v186_38, v186_39, v186_40, v186_41, v186_44, v186_45, v186_48, v186_49, v186_52, v186_53, v186_54, v186_55, v186_56, v186_59, v186_60, v186_63, v186_64, v186_65, v186_66, v186_67, v186_68, v186_71, v186_72, v186_75, v186_77, v186_78, v186_81, v186_82, v186_83, v186_86, v186_87, v186_88, v186_89, v186_90, v186_91, v186_94, v186_97, v186_98, v186_101, v186_102, v186_103, v186_104, v186_105, v186_106, v186_109, v186_110, v186_113, v186_114, v186_117, v186_118, v186_119, v186_120, v186_123, v186_124, v186_125, v186_126, v186_127, v186_130, v186_131, v186_132, v186_133, v186_134, v186_137, v186_138, v186_139, v186_142, v186_143, v186_144, v186_147, v186_148, v186_149, v186_150, v186_151, v186_154, v186_156, v186_157, v186_158, v186_161, v186_164, v186_165, v186_168, v186_169, v186_171, v186_173, v186_176, v186_177, v186_180, v186_183, v186_184, v186_185, v186_187, v186_190, v186_192, v186_194, v186_195, v186_198, v186_199, v186_202, v186_203, v186_205, v186_206, v186_207, v186_210, v186_211, v186_213, v186_216, v186_217, v186_220, v186_223, v186_224, v186_226, v186_227, v186_230, v186_231, v186_232, v186_233, v186_234, v186_237, v186_238, v186_239, v186_242, v186_244, v186_245, v186_246, v186_247, v186_248, v186_251, v186_252, v186_255, v186_256, v186_257, v186_258, v186_261, v186_267, hM.f0, hM.f1, hM.f2, hM.f3, hM.f4, hM.f5, hM.f6, hM.f8, hM.f10, hM.f12, hM.f13, hM.f25, hM.f27, hM.f28, hM.f36, hM.f37, hM.f38, hM.f40, hM.k0, hM.k1, hM.k2, hM.k3, hM.k4, hM.k13, hM.k14, hM.k15, hM.k16, hM.k17, hM.k26, hM.k51, hM.k52, hM.k53, hM.k54, hM.k55, hM.k56, hM.k57, hM.k58, hM.n1, hM.n2, hM.n3, hM.n4, hM.n13, hM.n14, hM.n15, hM.n16, hM.n17, hM.n26, hM.n51, hM.n52, hM.n53, hM.n54, hM.n55, hM.n56, hM.n57, hM.n58, vrf_s, true_or, or_true, true_and, and_true, and_self, not_false_eq_true, ib7_0, ib7_1, ib7_2, ib7_3, ib7_4, ib7_5, ib7_6, ib3_0, ib3_1, ib3_2, ib4_0, ib4_1, ib4_2, ib4_3, tc0, tc1, tc2, tc3, tc4, tc5, tc6, a2, q2, g1, reduceIte, q0, g2, n00, decide_false, Bool.false_or, Nat.lt_irrefl, Bool.false_and, z2_f]
    · have c1 : (nI (b - 1)).toNatClampNeg = b - 1 := nIc (by omega)
      have i1 : inb (nI (b - 1)) 24 = True := nIb (by omega) (by omega)
      have s1 : nI b - 1 = nI (b - 1) := nS1 (by omega)
      obtain ⟨d1, d2, -, d4⟩ := hD.2.2 (b - 1) (by omega)
      have g3 : (0 < b) = True := eq_true (by omega)
      cases hc : mC M (b - 1) with
      | false => simp only [v186_0, v186_1, v186_4, v186_5, v186_6, v186_9, v186_10, v186_13, v186_14, v186_17, v186_18, v186_21, v186_22, v186_25, v186_26, v186_27, v186_28, v186_29, v186_30, v186_31, v186_34, v186_35, v186_38, v186_39, v186_40, v186_41, v186_44, v186_45, v186_48, v186_49, v186_52, v186_53, v186_54, v186_55, v186_56, v186_59, v186_60, v186_63, v186_64, v186_65, v186_66, v186_67, v186_68, v186_71, v186_72, v186_75, v186_77, v186_78, v186_81, v186_82, v186_83, v186_86, v186_87, v186_88, v186_89, v186_90, v186_91, v186_94, v186_97, v186_98, v186_101, v186_102, v186_103, v186_104, v186_105, v186_106, v186_109, v186_110, v186_113, v186_114, v186_117, v186_118, v186_119, v186_120, v186_123, v186_124, v186_125, v186_126, v186_127, v186_130, v186_131, v186_132, v186_133, v186_134, v186_137, v186_138, v186_139, v186_142, v186_143, v186_144, v186_147, v186_148, v186_149, v186_150, v186_151, v186_154, v186_156, v186_157, v186_158, v186_161, v186_164, v186_165, v186_168, v186_169, v186_171, v186_173, v186_176, v186_177, v186_180, v186_183, v186_184, v186_185, v186_187, v186_190, v186_192, v186_194, v186_195, v186_198, v186_199, v186_202, v186_203, v186_205, v186_206, v186_207, v186_210, v186_211, v186_213, v186_216, v186_217, v186_220, v186_223, v186_224, v186_226, v186_227, v186_230, v186_231, v186_232, v186_233, v186_234, v186_237, v186_238, v186_239, v186_242, v186_244, v186_245, v186_246, v186_247, v186_248, v186_251, v186_252, v186_255, v186_256, v186_257, v186_258, v186_261, v186_267, hM.f0, hM.f1, hM.f2, hM.f3, hM.f4, hM.f5, hM.f6, hM.f8, hM.f10, hM.f12, hM.f13, hM.f25, hM.f27, hM.f28, hM.f36, hM.f37, hM.f38, hM.f40, hM.k0, hM.k1, hM.k2, hM.k3, hM.k4, hM.k13, hM.k14, hM.k15, hM.k16, hM.k17, hM.k26, hM.k51, hM.k52, hM.k53, hM.k54, hM.k55, hM.k56, hM.k57, hM.k58, hM.n1, hM.n2, hM.n3, hM.n4, hM.n13, hM.n14, hM.n15, hM.n16, hM.n17, hM.n26, hM.n51, hM.n52, hM.n53, hM.n54, hM.n55, hM.n56, hM.n57, hM.n58, vrf_s, true_or, or_true, true_and, and_true, and_self, not_false_eq_true, ib7_0, ib7_1, ib7_2, ib7_3, ib7_4, ib7_5, ib7_6, ib3_0, ib3_1, ib3_2, ib4_0, ib4_1, ib4_2, ib4_3, tc0, tc1, tc2, tc3, tc4, tc5, tc6, a2, q2, g1, reduceIte, q0, g2, s1, i1, c1, d1, d2, hc, z2_f, decide_false, Bool.false_or, Bool.and_false, Bool.false_and]
      | true =>
        cases hq : mB M (b - 1) with
        | none => simp only [v186_0, v186_1, v186_4, v186_5, v186_6, v186_9, v186_10, v186_13, v186_14, v186_17, v186_18, v186_21, v186_22, v186_25, v186_26, v186_27, v186_28, v186_29, v186_30, v186_31, v186_34, v186_35, v186_38, v186_39, v186_40, v186_41, v186_44, v186_45, v186_48, v186_49, v186_52, v186_53, v186_54, v186_55, v186_56, v186_59, v186_60, v186_63, v186_64, v186_65, v186_66, v186_67, v186_68, v186_71, v186_72, v186_75, v186_77, v186_78, v186_81, v186_82, v186_83, v186_86, v186_87, v186_88, v186_89, v186_90, v186_91, v186_94, v186_97, v186_98, v186_101, v186_102, v186_103, v186_104, v186_105, v186_106, v186_109, v186_110, v186_113, v186_114, v186_117, v186_118, v186_119, v186_120, v186_123, v186_124, v186_125, v186_126, v186_127, v186_130, v186_131, v186_132, v186_133, v186_134, v186_137, v186_138, v186_139, v186_142, v186_143, v186_144, v186_147, v186_148, v186_149, v186_150, v186_151, v186_154, v186_156, v186_157, v186_158, v186_161, v186_164, v186_165, v186_168, v186_169, v186_171, v186_173, v186_176, v186_177, v186_180, v186_183, v186_184, v186_185, v186_187, v186_190, v186_192, v186_194, v186_195, v186_198, v186_199, v186_202, v186_203, v186_205, v186_206, v186_207, v186_210, v186_211, v186_213, v186_216, v186_217, v186_220, v186_223, v186_224, v186_226, v186_227, v186_230, v186_231, v186_232, v186_233, v186_234, v186_237, v186_238, v186_239, v186_242, v186_244, v186_245, v186_246, v186_247, v186_248, v186_251, v186_252, v186_255, v186_256, v186_257, v186_258, v186_261, v186_267, hM.f0, hM.f1, hM.f2, hM.f3, hM.f4, hM.f5, hM.f6, hM.f8, hM.f10, hM.f12, hM.f13, hM.f25, hM.f27, hM.f28, hM.f36, hM.f37, hM.f38, hM.f40, hM.k0, hM.k1, hM.k2, hM.k3, hM.k4, hM.k13, hM.k14, hM.k15, hM.k16, hM.k17, hM.k26, hM.k51, hM.k52, hM.k53, hM.k54, hM.k55, hM.k56, hM.k57, hM.k58, hM.n1, hM.n2, hM.n3, hM.n4, hM.n13, hM.n14, hM.n15, hM.n16, hM.n17, hM.n26, hM.n51, hM.n52, hM.n53, hM.n54, hM.n55, hM.n56, hM.n57, hM.n58, vrf_s, true_or, or_true, true_and, and_true, and_self, not_false_eq_true, ib7_0, ib7_1, ib7_2, ib7_3, ib7_4, ib7_5, ib7_6, ib3_0, ib3_1, ib3_2, ib4_0, ib4_1, ib4_2, ib4_3, tc0, tc1, tc2, tc3, tc4, tc5, tc6, a2, q2, g1, reduceIte, q0, g2, s1, i1, c1, d1, d2, hc, hq, z2_f, z2_t, i10, oI, decide_false, Bool.false_or, Bool.and_false, Option.isSome_none]
        | some t =>
          have q3 : (oI (some t) = -1) = False := nm1 (by have := d4 t hq; omega)
          simp only [v186_0, v186_1, v186_4, v186_5, v186_6, v186_9, v186_10, v186_13, v186_14, v186_17, v186_18, v186_21, v186_22, v186_25, v186_26, v186_27, v186_28, v186_29, v186_30, v186_31, v186_34, v186_35, v186_38, v186_39, v186_40, v186_41, v186_44, v186_45, v186_48, v186_49, v186_52, v186_53, v186_54, v186_55, v186_56, v186_59, v186_60, v186_63, v186_64, v186_65, v186_66, v186_67, v186_68, v186_71, v186_72, v186_75, v186_77, v186_78, v186_81, v186_82, v186_83, v186_86, v186_87, v186_88, v186_89, v186_90, v186_91, v186_94, v186_97, v186_98, v186_101, v186_102, v186_103, v186_104, v186_105, v186_106, v186_109, v186_110, v186_113, v186_114, v186_117, v186_118, v186_119, v186_120, v186_123, v186_124, v186_125, v186_126, v186_127, v186_130, v186_131, v186_132, v186_133, v186_134, v186_137, v186_138, v186_139, v186_142, v186_143, v186_144, v186_147, v186_148, v186_149, v186_150, v186_151, v186_154, v186_156, v186_157, v186_158, v186_161, v186_164, v186_165, v186_168, v186_169, v186_171, v186_173, v186_176, v186_177, v186_180, v186_183, v186_184, v186_185, v186_187, v186_190, v186_192, v186_194, v186_195, v186_198, v186_199, v186_202, v186_203, v186_205, v186_206, v186_207, v186_210, v186_211, v186_213, v186_216, v186_217, v186_220, v186_223, v186_224, v186_226, v186_227, v186_230, v186_231, v186_232, v186_233, v186_234, v186_237, v186_238, v186_239, v186_242, v186_244, v186_245, v186_246, v186_247, v186_248, v186_251, v186_252, v186_255, v186_256, v186_257, v186_258, v186_261, v186_267, hM.f0, hM.f1, hM.f2, hM.f3, hM.f4, hM.f5, hM.f6, hM.f8, hM.f10, hM.f12, hM.f13, hM.f25, hM.f27, hM.f28, hM.f36, hM.f37, hM.f38, hM.f40, hM.k0, hM.k1, hM.k2, hM.k3, hM.k4, hM.k13, hM.k14, hM.k15, hM.k16, hM.k17, hM.k26, hM.k51, hM.k52, hM.k53, hM.k54, hM.k55, hM.k56, hM.k57, hM.k58, hM.n1, hM.n2, hM.n3, hM.n4, hM.n13, hM.n14, hM.n15, hM.n16, hM.n17, hM.n26, hM.n51, hM.n52, hM.n53, hM.n54, hM.n55, hM.n56, hM.n57, hM.n58, vrf_s, true_or, or_true, true_and, and_true, and_self, not_false_eq_true, ib7_0, ib7_1, ib7_2, ib7_3, ib7_4, ib7_5, ib7_6, ib3_0, ib3_1, ib3_2, ib4_0, ib4_1, ib4_2, ib4_3, tc0, tc1, tc2, tc3, tc4, tc5, tc6, a2, q2, g1, reduceIte, q0, g2, s1, i1, c1, d1, d2, hc, hq, z2_f, z2_t, i10, q3, g3, decide_false, decide_true, Bool.false_or, Bool.and_true, Bool.true_and, Option.isSome_some]
/-- whether one comes -/
theorem c186_c (hM : MSh m h) (hP : MP m s h) (hO : SOk s) (hp : POk s π) (hpp : PP m π h) {M : MS} {b : Nat} (hb : b < sM s) (many : Int32) (v4 v5 v6 : Value) :
    V 186 77 [.ref m, .int many, .int (nI b), .int (z2 (frN s M b)), v4, v5, v6] [] h K = V 186 118 [.ref m, .int many, .int (nI b), .int (z2 (frN s M b)), v4, v5, v6] [.int (z2 (coN s π M b)), .int (nI b), .ref (m + 55)] h K := by
  have hb8 : b < 24 := Nat.lt_of_lt_of_le hb hO.2.1
  obtain ⟨u1, u2, u3⟩ := hM.by hb8
  have c2 : (nI b).toNatClampNeg = b := nIc (by omega)
  have i2 : inb (nI b) 24 = True := nIb hb8 (by omega)
  have f0 := hP.b hb (k := 0) (by omega)
  have f1 := hP.b hb (k := 1) (by omega)
  obtain ⟨g0, g1, -, g2⟩ := hO.2.2.2.1 b hb
  have l1 : (nI (pR0 π) ≤ nI (sB s b 0)) = (pR0 π ≤ sB s b 0) := nleN (by have := hp.1; omega) (by omega)
  have l2 : (nI (sB s b 1) = 2) = (sB s b 1 = 2) := (nLit (s := sB s b 1) (by omega)).2.2.1
  unfold coN
  by_cases w1 : pR0 π ≤ sB s b 0
  · simp only [v186_0, v186_1, v186_4, v186_5, v186_6, v186_9, v186_10, v186_13, v186_14, v186_17, v186_18, v186_21, v186_22, v186_25, v186_26, v186_27, v186_28, v186_29, v186_30, v186_31, v186_34, v186_35, v186_38, v186_39, v186_40, v186_41, v186_44, v186_45, v186_48, v186_49, v186_52, v186_53, v186_54, v186_55, v186_56, v186_59, v186_60, v186_63, v186_64, v186_65, v186_66, v186_67, v186_68, v186_71, v186_72, v186_75, v186_77, v186_78, v186_81, v186_82, v186_83, v186_86, v186_87, v186_88, v186_89, v186_90, v186_91, v186_94, v186_97, v186_98, v186_101, v186_102, v186_103, v186_104, v186_105, v186_106, v186_109, v186_110, v186_113, v186_114, v186_117, v186_119, v186_120, v186_123, v186_124, v186_125, v186_126, v186_127, v186_130, v186_131, v186_132, v186_133, v186_134, v186_137, v186_138, v186_139, v186_142, v186_143, v186_144, v186_147, v186_148, v186_149, v186_150, v186_151, v186_154, v186_156, v186_157, v186_158, v186_161, v186_164, v186_165, v186_168, v186_169, v186_171, v186_173, v186_176, v186_177, v186_180, v186_183, v186_184, v186_185, v186_187, v186_190, v186_192, v186_194, v186_195, v186_198, v186_199, v186_202, v186_203, v186_205, v186_206, v186_207, v186_210, v186_211, v186_213, v186_216, v186_217, v186_220, v186_223, v186_224, v186_226, v186_227, v186_230, v186_231, v186_232, v186_233, v186_234, v186_237, v186_238, v186_239, v186_242, v186_244, v186_245, v186_246, v186_247, v186_248, v186_251, v186_252, v186_255, v186_256, v186_257, v186_258, v186_261, v186_267, hM.f0, hM.f1, hM.f2, hM.f3, hM.f4, hM.f5, hM.f6, hM.f8, hM.f10, hM.f12, hM.f13, hM.f25, hM.f27, hM.f28, hM.f36, hM.f37, hM.f38, hM.f40, hM.k0, hM.k1, hM.k2, hM.k3, hM.k4, hM.k13, hM.k14, hM.k15, hM.k16, hM.k17, hM.k26, hM.k51, hM.k52, hM.k53, hM.k54, hM.k55, hM.k56, hM.k57, hM.k58, hM.n1, hM.n2, hM.n3, hM.n4, hM.n13, hM.n14, hM.n15, hM.n16, hM.n17, hM.n26, hM.n51, hM.n52, hM.n53, hM.n54, hM.n55, hM.n56, hM.n57, hM.n58, vrf_s, true_or, or_true, true_and, and_true, and_self, not_false_eq_true, ib7_0, ib7_1, ib7_2, ib7_3, ib7_4, ib7_5, ib7_6, ib3_0, ib3_1, ib3_2, ib4_0, ib4_1, ib4_2, ib4_3, tc0, tc1, tc2, tc3, tc4, tc5, tc6, u1, u2, u3, c2, i2, f0, f1, hpp.1, l1, w1, reduceIte, Nat.not_lt.mpr w1, decide_false, Bool.false_and, z2_f]
  · by_cases w2 : sB s b 1 = 2
    · cases hf : frN s M b with
      | true => simp only [v186_0, v186_1, v186_4, v186_5, v186_6, v186_9, v186_10, v186_13, v186_14, v186_17, v186_18, v186_21, v186_22, v186_25, v186_26, v186_27, v186_28, v186_29, v186_30, v186_31, v186_34, v186_35, v186_38, v186_39, v186_40, v186_41, v186_44, v186_45, v186_48, v186_49, v186_52, v186_53, v186_54, v186_55, v186_56, v186_59, v186_60, v186_63, v186_64, v186_65, v186_66, v186_67, v186_68, v186_71, v186_72, v186_75, v186_77, v186_78, v186_81, v186_82, v186_83, v186_86, v186_87, v186_88, v186_89, v186_90, v186_91, v186_94, v186_97, v186_98, v186_101, v186_102, v186_103, v186_104, v186_105, v186_106, v186_109, v186_110, v186_113, v186_114, v186_117, v186_119, v186_120, v186_123, v186_124, v186_125, v186_126, v186_127, v186_130, v186_131, v186_132, v186_133, v186_134, v186_137, v186_138, v186_139, v186_142, v186_143, v186_144, v186_147, v186_148, v186_149, v186_150, v186_151, v186_154, v186_156, v186_157, v186_158, v186_161, v186_164, v186_165, v186_168, v186_169, v186_171, v186_173, v186_176, v186_177, v186_180, v186_183, v186_184, v186_185, v186_187, v186_190, v186_192, v186_194, v186_195, v186_198, v186_199, v186_202, v186_203, v186_205, v186_206, v186_207, v186_210, v186_211, v186_213, v186_216, v186_217, v186_220, v186_223, v186_224, v186_226, v186_227, v186_230, v186_231, v186_232, v186_233, v186_234, v186_237, v186_238, v186_239, v186_242, v186_244, v186_245, v186_246, v186_247, v186_248, v186_251, v186_252, v186_255, v186_256, v186_257, v186_258, v186_261, v186_267, hM.f0, hM.f1, hM.f2, hM.f3, hM.f4, hM.f5, hM.f6, hM.f8, hM.f10, hM.f12, hM.f13, hM.f25, hM.f27, hM.f28, hM.f36, hM.f37, hM.f38, hM.f40, hM.k0, hM.k1, hM.k2, hM.k3, hM.k4, hM.k13, hM.k14, hM.k15, hM.k16, hM.k17, hM.k26, hM.k51, hM.k52, hM.k53, hM.k54, hM.k55, hM.k56, hM.k57, hM.k58, hM.n1, hM.n2, hM.n3, hM.n4, hM.n13, hM.n14, hM.n15, hM.n16, hM.n17, hM.n26, hM.n51, hM.n52, hM.n53, hM.n54, hM.n55, hM.n56, hM.n57, hM.n58, vrf_s, true_or, or_true, true_and, and_true, and_self, not_false_eq_true, ib7_0, ib7_1, ib7_2, ib7_3, ib7_4, ib7_5, ib7_6, ib3_0, ib3_1, ib3_2, ib4_0, ib4_1, ib4_2, ib4_3, tc0, tc1, tc2, tc3, tc4, tc5, tc6, u1, u2, u3, c2, i2, f0, f1, hpp.1, l1, w1, reduceIte, Nat.not_le.mp w1, decide_true, Bool.true_and, w2, l2, n22, not_true_eq_false, z2_t, i10, ne_eq, decide_false, Bool.false_or]
      | false => simp only [v186_0, v186_1, v186_4, v186_5, v186_6, v186_9, v186_10, v186_13, v186_14, v186_17, v186_18, v186_21, v186_22, v186_25, v186_26, v186_27, v186_28, v186_29, v186_30, v186_31, v186_34, v186_35, v186_38, v186_39, v186_40, v186_41, v186_44, v186_45, v186_48, v186_49, v186_52, v186_53, v186_54, v186_55, v186_56, v186_59, v186_60, v186_63, v186_64, v186_65, v186_66, v186_67, v186_68, v186_71, v186_72, v186_75, v186_77, v186_78, v186_81, v186_82, v186_83, v186_86, v186_87, v186_88, v186_89, v186_90, v186_91, v186_94, v186_97, v186_98, v186_101, v186_102, v186_103, v186_104, v186_105, v186_106, v186_109, v186_110, v186_113, v186_114, v186_117, v186_119, v186_120, v186_123, v186_124, v186_125, v186_126, v186_127, v186_130, v186_131, v186_132, v186_133, v186_134, v186_137, v186_138, v186_139, v186_142, v186_143, v186_144, v186_147, v186_148, v186_149, v186_150, v186_151, v186_154, v186_156, v186_157, v186_158, v186_161, v186_164, v186_165, v186_168, v186_169, v186_171, v186_173, v186_176, v186_177, v186_180, v186_183, v186_184, v186_185, v186_187, v186_190, v186_192, v186_194, v186_195, v186_198, v186_199, v186_202, v186_203, v186_205, v186_206, v186_207, v186_210, v186_211, v186_213, v186_216, v186_217, v186_220, v186_223, v186_224, v186_226, v186_227, v186_230, v186_231, v186_232, v186_233, v186_234, v186_237, v186_238, v186_239, v186_242, v186_244, v186_245, v186_246, v186_247, v186_248, v186_251, v186_252, v186_255, v186_256, v186_257, v186_258, v186_261, v186_267, hM.f0, hM.f1, hM.f2, hM.f3, hM.f4, hM.f5, hM.f6, hM.f8, hM.f10, hM.f12, hM.f13, hM.f25, hM.f27, hM.f28, hM.f36, hM.f37, hM.f38, hM.f40, hM.k0, hM.k1, hM.k2, hM.k3, hM.k4, hM.k13, hM.k14, hM.k15, hM.k16, hM.k17, hM.k26, hM.k51, hM.k52, hM.k53, hM.k54, hM.k55, hM.k56, hM.k57, hM.k58, hM.n1, hM.n2, hM.n3, hM.n4, hM.n13, hM.n14, hM.n15, hM.n16, hM.n17, hM.n26, hM.n51, hM.n52, hM.n53, hM.n54, hM.n55, hM.n56, hM.n57, hM.n58, vrf_s, true_or, or_true, true_and, and_true, and_self, not_false_eq_true, ib7_0, ib7_1, ib7_2, ib7_3, ib7_4, ib7_5, ib7_6, ib3_0, ib3_1, ib3_2, ib4_0, ib4_1, ib4_2, ib4_3, tc0, tc1, tc2, tc3, tc4, tc5, tc6, u1, u2, u3, c2, i2, f0, f1, hpp.1, l1, w1, reduceIte, Nat.not_le.mp w1, decide_true, Bool.true_and, w2, l2, n22, not_true_eq_false, z2_f, ne_eq, decide_false, Bool.false_or]
    · simp only [v186_0, v186_1, v186_4, v186_5, v186_6, v186_9, v186_10, v186_13, v186_14, v186_17, v186_18, v186_21, v186_22, v186_25, v186_26, v186_27, v186_28, v186_29, v186_30, v186_31, v186_34, v186_35, v186_38, v186_39, v186_40, v186_41, v186_44, v186_45, v186_48, v186_49, v186_52, v186_53, v186_54, v186_55, v186_56, v186_59, v186_60, v186_63, v186_64, v186_65, v186_66, v186_67, v186_68, v186_71, v186_72, v186_75, v186_77, v186_78, v186_81, v186_82, v186_83, v186_86, v186_87, v186_88, v186_89, v186_90, v186_91, v186_94, v186_97, v186_98, v186_101, v186_102, v186_103, v186_104, v186_105, v186_106, v186_109, v186_110, v186_113, v186_114, v186_117, v186_119, v186_120, v186_123, v186_124, v186_125, v186_126, v186_127, v186_130, v186_131, v186_132, v186_133, v186_134, v186_137, v186_138, v186_139, v186_142, v186_143, v186_144, v186_147, v186_148, v186_149, v186_150, v186_151, v186_154, v186_156, v186_157, v186_158, v186_161, v186_164, v186_165, v186_168, v186_169, v186_171, v186_173, v186_176, v186_177, v186_180, v186_183, v186_184, v186_185, v186_187, v186_190, v186_192, v186_194, v186_195, v186_198, v186_199, v186_202, v186_203, v186_205, v186_206, v186_207, v186_210, v186_211, v186_213, v186_216, v186_217, v186_220, v186_223, v186_224, v186_226, v186_227, v186_230, v186_231, v186_232, v186_233, v186_234, v186_237, v186_238, v186_239, v186_242, v186_244, v186_245, v186_246, v186_247, v186_248, v186_251, v186_252, v186_255, v186_256, v186_257, v186_258, v186_261, v186_267, hM.f0, hM.f1, hM.f2, hM.f3, hM.f4, hM.f5, hM.f6, hM.f8, hM.f10, hM.f12, hM.f13, hM.f25, hM.f27, hM.f28, hM.f36, hM.f37, hM.f38, hM.f40, hM.k0, hM.k1, hM.k2, hM.k3, hM.k4, hM.k13, hM.k14, hM.k15, hM.k16, hM.k17, hM.k26, hM.k51, hM.k52, hM.k53, hM.k54, hM.k55, hM.k56, hM.k57, hM.k58, hM.n1, hM.n2, hM.n3, hM.n4, hM.n13, hM.n14, hM.n15, hM.n16, hM.n17, hM.n26, hM.n51, hM.n52, hM.n53, hM.n54, hM.n55, hM.n56, hM.n57, hM.n58, vrf_s, true_or, or_true, true_and, and_true, and_self, not_false_eq_true, ib7_0, ib7_1, ib7_2, ib7_3, ib7_4, ib7_5, ib7_6, ib3_0, ib3_1, ib3_2, ib4_0, ib4_1, ib4_2, ib4_3, tc0, tc1, tc2, tc3, tc4, tc5, tc6, u1, u2, u3, c2, i2, f0, f1, hpp.1, l1, w1, reduceIte, Nat.not_le.mp w1, decide_true, Bool.true_and, w2, l2, ne_eq, decide_true, Bool.true_or, z2_t, not_false_eq_true]
/-- the day's cells after one more buyer without a thing, after a sale, after findOn -/
theorem DP.base {M : MS} {b : Nat} (hD : DP m M b h) (co : Bool) : DP m (mS M, mK M, up (mC M) b co, up (mB M) b none, up (mD M) b 0) (b + 1) (pI (pI (pI h (m + 55) b (z2 co)) (m + 56) b (-1)) (m + 57) b 0) := by
  obtain ⟨d1, d2, d3⟩ := hD
  refine ⟨fun t ht => ?_, ?_, fun u hu => ?_⟩
  · rw [gI_ne (by omega), gI_ne (by omega), gI_ne (by omega)]
    exact d1 t ht
  · rw [gI_ne (by omega), gI_ne (by omega), gI_ne (by omega)]
    exact d2
  · by_cases e : u = b
    · subst e
      refine ⟨?_, ?_, ?_, fun t ht => ?_⟩
      · rw [gI_ne (by omega), gI_ne (by omega), gI_at]
        exact congrArg z2 (up_at _ _ _).symm
      · rw [gI_ne (by omega), gI_at]
        exact (congrArg oI (up_at (mB M) u none)).symm
      · rw [gI_at]
        exact (congrArg nI (up_at (mD M) u 0)).symm
      · change up (mB M) u none u = some t at ht
        rw [up_at] at ht
        cases ht
    · obtain ⟨e1, e2, e3, e4⟩ := d3 u (by omega)
      refine ⟨?_, ?_, ?_, fun t ht => ?_⟩
      · rw [gI_ne (by omega), gI_ne (by omega), gI_ne (by omega)]
        exact e1.trans (congrArg z2 (up_ne e).symm)
      · rw [gI_ne (by omega), gI_ne (by omega), gI_ne (by omega)]
        exact e2.trans (congrArg oI (up_ne (f := mB M) (v := none) e).symm)
      · rw [gI_ne (by omega), gI_ne (by omega), gI_ne (by omega)]
        exact e3.trans (congrArg nI (up_ne (f := mD M) (v := 0) e).symm)
      · change up (mB M) b none u = some t at ht
        rw [up_ne e] at ht
        exact e4 t ht
theorem DP.sell {M : MS} {b t p : Nat} (ht8 : t < 8) (hD : DP m (mS M, mK M, up (mC M) b true, up (mB M) b none, up (mD M) b 0) (b + 1) h) : DP m (up (mS M) t true, mK M + p, up (mC M) b true, up (mB M) b (some t), up (mD M) b p) (b + 1) (pI (pI (pI (pI h (m + 56) b (nI t)) (m + 57) b (nI p)) (m + 53) t 1) m 39 (nI (mK M + p))) := by
  obtain ⟨d1, d2, d3⟩ := hD
  refine ⟨fun u hu => ?_, gI_at _ _ _ _, fun u hu => ?_⟩
  · by_cases e : u = t
    · subst e
      rw [gI_ne (by omega), gI_at]
      exact congrArg z2 (up_at (mS M) u true).symm
    · rw [gI_ne (by omega), gI_ne (by omega), gI_ne (by omega), gI_ne (by omega)]
      exact (d1 u hu).trans (congrArg z2 (up_ne (f := mS M) e).symm)
  · obtain ⟨e1, e2, e3, e4⟩ := d3 u hu
    by_cases e : u = b
    · subst e
      refine ⟨?_, ?_, ?_, fun w hw => ?_⟩
      · rw [gI_ne (by omega), gI_ne (by omega), gI_ne (by omega), gI_ne (by omega)]
        exact e1
      · rw [gI_ne (by omega), gI_ne (by omega), gI_ne (by omega), gI_at]
        exact (congrArg oI (up_at (mB M) u (some t))).symm
      · rw [gI_ne (by omega), gI_ne (by omega), gI_at]
        exact (congrArg nI (up_at (mD M) u p)).symm
      · change up (mB M) u (some t) u = some w at hw
        rw [up_at] at hw
        cases hw
        exact ht8
    · refine ⟨?_, ?_, ?_, fun w hw => ?_⟩
      · rw [gI_ne (by omega), gI_ne (by omega), gI_ne (by omega), gI_ne (by omega)]
        exact e1
      · rw [gI_ne (by omega), gI_ne (by omega), gI_ne (by omega), gI_ne (by omega), e2]
        show oI (up (mB M) b none u) = oI (up (mB M) b (some t) u)
        rw [up_ne e, up_ne e]
      · rw [gI_ne (by omega), gI_ne (by omega), gI_ne (by omega), gI_ne (by omega), e3]
        show nI (up (mD M) b 0 u) = nI (up (mD M) b p u)
        rw [up_ne e, up_ne e]
      · change up (mB M) b (some t) u = some w at hw
        rw [up_ne e] at hw
        refine e4 w ?_
        change up (mB M) b none u = some w
        rw [up_ne e]
        exact hw
theorem DP.on {M : MS} {b : Nat} (hD : DP m M b h) (q : Fr (fun a _ => a = m + 54) h h1) : DP m M b h1 := by
  obtain ⟨d1, d2, d3⟩ := hD
  refine ⟨fun t ht => (q.i (fun z => by omega)).trans (d1 t ht), (q.i (fun z => by omega)).trans d2, fun u hu => ?_⟩
  obtain ⟨e1, e2, e3, e4⟩ := d3 u hu
  exact ⟨(q.i (fun z => by omega)).trans e1, (q.i (fun z => by omega)).trans e2, (q.i (fun z => by omega)).trans e3, e4⟩
end
