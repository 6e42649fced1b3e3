/-! the reference's goesBy, buyer by buyer -/
theorem offQ_s {π : PR} {b : Nat} {q : Nat × Nat} (h : offQ π b = some q) : pOff π = some (b, q) := by
  unfold offQ at h
  cases ho : pOff π with
  | none => rw [ho] at h; cases h
  | some w =>
    rw [ho] at h
    dsimp only at h
    split at h
    · rename_i e
      cases h
      rw [← e]
    · cases h
section
variable {m : Nat} {s : SG} {π : PR} {h h1 : Hp} {K : Option Value → Hp → Prop}
theorem c186_s (hM : MSh m h) (hP : MP m s h) (hO : SOk s) (hp : POk s π) (hpp : PP m π h) {M : MS} {b t : Nat} (hb : b < sM s) (ht : t < sN s) (hk : mK M ≤ 99 * b) (hd : gI h m 39 = nI (mK M)) (many : Int32) (v3 v4 : Value) :
    V 186 198 [.ref m, .int many, .int (nI b), v3, v4, .int (z2 (offQ π b).isSome), .int (nI t)] [] h K = V 186 261 [.ref m, .int many, .int (nI b), v3, v4, .int (z2 (offQ π b).isSome), .int (nI t)] [] (pI (pI (pI (pI h (m + 56) b (nI t)) (m + 57) b (nI (pdN s π b t))) (m + 53) t 1) m 39 (nI (mK M + pdN s π b t))) K := by
  have ht8 : t < 8 := Nat.lt_of_lt_of_le ht hO.1
  have hb8 : b < 24 := Nat.lt_of_lt_of_le hb hO.2.1
  obtain ⟨u1, u2, u3⟩ := hM.by hb8
  have c1 : (nI t).toNatClampNeg = t := nIc (by omega)
  have c2 : (nI b).toNatClampNeg = b := nIc (by omega)
  have i1 : inb (nI t) 8 = True := nIb ht8 (by omega)
  have i2 : inb (nI b) 24 = True := nIb hb8 (by omega)
  have f0 := hP.b hb (k := 0) (by omega)
  obtain ⟨g0, -, -, -⟩ := hO.2.2.2.1 b hb
  have q1 : Fr (DW m) h (pI h (m + 56) b (nI t)) := Fr.rf.pI (Or.inl ⟨by omega, by omega⟩)
  have n1 : ∀ x : Int32, gI (pI h (m + 56) b x) m 34 = gI h m 34 := fun x => gI_ne (by omega)
  have n2 : ∀ x : Int32, gI (pI h (m + 56) b x) (m + (27 + b)) 0 = gI h (m + (27 + b)) 0 := fun x => gI_ne (by omega)
  have n3 : ∀ x y z : Int32, gI (pI (pI (pI h (m + 56) b x) (m + 57) b y) (m + 53) t z) m 39 = gI h m 39 := fun x y z => by rw [gI_ne (by omega), gI_ne (by omega), gI_ne (by omega)]
  have n4 : ∀ x y z : Int32, gI (pI (pI (pI h (m + 56) b x) (m + 57) b y) (m + 53) t z) (m + 57) b = y := fun x y z => by rw [gI_ne (by omega), gI_at]
  have cp := c176 (K := fun r h1 => V 186 237 [.ref m, .int many, .int (nI b), v3, v4, .int 0, .int (nI t)] (pu r [.int (nI b), .ref (m + 57)]) h1 K) (hM.dw q1) (hP.dw hO q1) hO ht g0
  cases ho : offQ π b with
  | some q =>
    have hpd : pdN s π b t = q.2 := by unfold pdN; rw [ho]
    have e4 := (hpp.2.2.2.1 _ (offQ_s ho)).2
    rw [hpd]
    simp only [v186_0, v186_1, v186_4, v186_5, v186_6, v186_9, v186_10, v186_13, v186_14, v186_17, v186_18, v186_21, v186_22, v186_25, v186_26, v186_27, v186_28, v186_29, v186_30, v186_31, v186_34, v186_35, v186_38, v186_39, v186_40, v186_41, v186_44, v186_45, v186_48, v186_49, v186_52, v186_53, v186_54, v186_55, v186_56, v186_59, v186_60, v186_63, v186_64, v186_65, v186_66, v186_67, v186_68, v186_71, v186_72, v186_75, v186_76, v186_77, v186_78, v186_81, v186_82, v186_83, v186_86, v186_87, v186_88, v186_89, v186_90, v186_91, v186_94, v186_97, v186_98, v186_101, v186_102, v186_103, v186_104, v186_105, v186_106, v186_109, v186_110, v186_113, v186_114, v186_117, v186_118, v186_119, v186_120, v186_123, v186_124, v186_125, v186_126, v186_127, v186_130, v186_131, v186_132, v186_133, v186_134, v186_137, v186_138, v186_139, v186_142, v186_143, v186_144, v186_147, v186_148, v186_149, v186_150, v186_151, v186_154, v186_156, v186_157, v186_158, v186_161, v186_164, v186_165, v186_168, v186_169, v186_171, v186_173, v186_176, v186_177, v186_180, v186_183, v186_184, v186_185, v186_187, v186_190, v186_192, v186_194, v186_195, v186_198, v186_199, v186_202, v186_203, v186_205, v186_206, v186_207, v186_210, v186_211, v186_213, v186_216, v186_217, v186_220, v186_223, v186_224, v186_226, v186_227, v186_230, v186_231, v186_232, v186_233, v186_234, v186_237, v186_238, v186_239, v186_242, v186_244, v186_245, v186_246, v186_247, v186_248, v186_251, v186_252, v186_255, v186_256, v186_257, v186_258, v186_267, hM.f0, hM.f1, hM.f2, hM.f3, hM.f4, hM.f5, hM.f6, hM.f8, hM.f10, hM.f12, hM.f13, hM.f25, hM.f27, hM.f28, hM.f36, hM.f37, hM.f38, hM.f40, hM.k0, hM.k1, hM.k2, hM.k3, hM.k4, hM.k13, hM.k14, hM.k15, hM.k16, hM.k17, hM.k26, hM.k51, hM.k52, hM.k53, hM.k54, hM.k55, hM.k56, hM.k57, hM.k58, hM.n1, hM.n2, hM.n3, hM.n4, hM.n13, hM.n14, hM.n15, hM.n16, hM.n17, hM.n26, hM.n51, hM.n52, hM.n53, hM.n54, hM.n55, hM.n56, hM.n57, hM.n58, vrf_s, true_or, or_true, true_and, and_true, and_self, not_false_eq_true, ib7_0, ib7_1, ib7_2, ib7_3, ib7_4, ib7_5, ib7_6, ib3_0, ib3_1, ib3_2, ib4_0, ib4_1, ib4_2, ib4_3, tc0, tc1, tc2, tc3, tc4, tc5, tc6, gI_pJ, gI_pR, gJ_pI, gJ_pR, gR_pI, gR_pJ, gK_pI, gK_pJ, gK_pR, gN_pI, gN_pJ, gN_pR, gX_pI, gX_pJ, gX_pR, gS_pI, gS_pJ, gS_pR, gK_cpI, gN_cpI, gK_cpJ, gN_cpJ, gR_cpI, gR_cpJ, gJ_cpI, gI_cpJ, u1, u2, u3, c1, c2, i1, i2, Option.isSome_some, z2_t, i10, reduceIte, n1, n2, n3, n4, e4, hd, nI_add]
  | none =>
    have hpd : pdN s π b t = prN s t (sB s b 0) := by unfold pdN; rw [ho]
    rw [hpd]
    simp only [v186_0, v186_1, v186_4, v186_5, v186_6, v186_9, v186_10, v186_13, v186_14, v186_17, v186_18, v186_21, v186_22, v186_25, v186_26, v186_27, v186_28, v186_29, v186_30, v186_31, v186_34, v186_35, v186_38, v186_39, v186_40, v186_41, v186_44, v186_45, v186_48, v186_49, v186_52, v186_53, v186_54, v186_55, v186_56, v186_59, v186_60, v186_63, v186_64, v186_65, v186_66, v186_67, v186_68, v186_71, v186_72, v186_75, v186_76, v186_77, v186_78, v186_81, v186_82, v186_83, v186_86, v186_87, v186_88, v186_89, v186_90, v186_91, v186_94, v186_97, v186_98, v186_101, v186_102, v186_103, v186_104, v186_105, v186_106, v186_109, v186_110, v186_113, v186_114, v186_117, v186_118, v186_119, v186_120, v186_123, v186_124, v186_125, v186_126, v186_127, v186_130, v186_131, v186_132, v186_133, v186_134, v186_137, v186_138, v186_139, v186_142, v186_143, v186_144, v186_147, v186_148, v186_149, v186_150, v186_151, v186_154, v186_156, v186_157, v186_158, v186_161, v186_164, v186_165, v186_168, v186_169, v186_171, v186_173, v186_176, v186_177, v186_180, v186_183, v186_184, v186_185, v186_187, v186_190, v186_192, v186_194, v186_195, v186_198, v186_199, v186_202, v186_203, v186_205, v186_206, v186_207, v186_210, v186_211, v186_213, v186_216, v186_217, v186_220, v186_223, v186_224, v186_226, v186_227, v186_230, v186_231, v186_232, v186_233, v186_234, v186_237, v186_238, v186_239, v186_242, v186_244, v186_245, v186_246, v186_247, v186_248, v186_251, v186_252, v186_255, v186_256, v186_257, v186_258, v186_267, hM.f0, hM.f1, hM.f2, hM.f3, hM.f4, hM.f5, hM.f6, hM.f8, hM.f10, hM.f12, hM.f13, hM.f25, hM.f27, hM.f28, hM.f36, hM.f37, hM.f38, hM.f40, hM.k0, hM.k1, hM.k2, hM.k3, hM.k4, hM.k13, hM.k14, hM.k15, hM.k16, hM.k17, hM.k26, hM.k51, hM.k52, hM.k53, hM.k54, hM.k55, hM.k56, hM.k57, hM.k58, hM.n1, hM.n2, hM.n3, hM.n4, hM.n13, hM.n14, hM.n15, hM.n16, hM.n17, hM.n26, hM.n51, hM.n52, hM.n53, hM.n54, hM.n55, hM.n56, hM.n57, hM.n58, vrf_s, true_or, or_true, true_and, and_true, and_self, not_false_eq_true, ib7_0, ib7_1, ib7_2, ib7_3, ib7_4, ib7_5, ib7_6, ib3_0, ib3_1, ib3_2, ib4_0, ib4_1, ib4_2, ib4_3, tc0, tc1, tc2, tc3, tc4, tc5, tc6, gI_pJ, gI_pR, gJ_pI, gJ_pR, gR_pI, gR_pJ, gK_pI, gK_pJ, gK_pR, gN_pI, gN_pJ, gN_pR, gX_pI, gX_pJ, gX_pR, gS_pI, gS_pJ, gS_pR, gK_cpI, gN_cpI, gK_cpJ, gN_cpJ, gR_cpI, gR_cpJ, gJ_cpI, gI_cpJ, u1, u2, u3, c1, c2, i1, i2, Option.isSome_none, z2_f, reduceIte, n1, n2, n3, n4, f0, cp, pu_s, hd, nI_add]
/-- one buyer -/
theorem c186_b (hM : MSh m h) (hP : MP m s h) (hO : SOk s) (hp : POk s π) (hpp : PP m π h) {M : MS} {b : Nat} (hb : b < sM s) (hD : DP m M b h) (hk : mK M ≤ 99 * b) (many : Int32) (v3 v4 v5 v6 : Value)
    (kk : ∀ (h2 : Hp) (w3 w4 w5 w6 : Value), Fr (DW m) h h2 → DP m (moS s π M b) (b + 1) h2 → V 186 264 [.ref m, .int many, .int (nI (b + 1)), w3, w4, w5, w6] [] h2 K) :
    V 186 34 [.ref m, .int many, .int (nI b), v3, v4, v5, v6] [] h K := by
  have hb8 : b < 24 := Nat.lt_of_lt_of_le hb hO.2.1
  have hn8 := hO.1
  have c2 : (nI b).toNatClampNeg = b := nIc (by omega)
  have i2 : inb (nI b) 24 = True := nIb hb8 (by omega)
  obtain ⟨g0, -, -, -⟩ := hO.2.2.2.1 b hb
  have n5 : ∀ x y z : Int32, gI (pI (pI (pI h (m + 55) b x) (m + 56) b y) (m + 57) b z) (m + 55) b = x := fun x y z => by rw [gI_ne (by omega), gI_ne (by omega), gI_at]
  have n6 : ∀ x y z : Int32, gI (pI (pI (pI h (m + 55) b x) (m + 56) b y) (m + 57) b z) (m + (27 + b)) 0 = gI h (m + (27 + b)) 0 := fun x y z => by rw [gI_ne (by omega), gI_ne (by omega), gI_ne (by omega)]
  have f0 := hP.b hb (k := 0) (by omega)
  obtain ⟨u1, u2, u3⟩ := hM.by hb8
  rw [c186_f hM hP hO hb hD, v186_76, c186_c hM hP hO hp hpp hb]
  cases hco : coN s π M b with
  | false =>
    have hB := hD.base false
    rw [z2_f] at hB
    have e1 : moS s π M b = (mS M, mK M, up (mC M) b false, up (mB M) b none, up (mD M) b 0) := by unfold moS; rw [hco, if_neg (by decide)]
    rw [← e1] at hB
    simp only [v186_0, v186_1, v186_4, v186_5, v186_6, v186_9, v186_10, v186_13, v186_14, v186_17, v186_18, v186_21, v186_22, v186_25, v186_26, v186_27, v186_28, v186_29, v186_30, v186_31, v186_34, v186_35, v186_38, v186_39, v186_40, v186_41, v186_44, v186_45, v186_48, v186_49, v186_52, v186_53, v186_54, v186_55, v186_56, v186_59, v186_60, v186_63, v186_64, v186_65, v186_66, v186_67, v186_68, v186_71, v186_72, v186_75, v186_77, v186_78, v186_81, v186_82, v186_83, v186_86, v186_87, v186_88, v186_89, v186_90, v186_91, v186_94, v186_97, v186_98, v186_101, v186_102, v186_103, v186_104, v186_105, v186_106, v186_109, v186_110, v186_113, v186_114, v186_117, v186_118, v186_119, v186_120, v186_123, v186_124, v186_125, v186_126, v186_127, v186_130, v186_131, v186_132, v186_133, v186_134, v186_137, v186_138, v186_139, v186_142, v186_143, v186_144, v186_147, v186_148, v186_149, v186_150, v186_151, v186_154, v186_156, v186_157, v186_158, v186_161, v186_164, v186_165, v186_168, v186_169, v186_171, v186_173, v186_176, v186_177, v186_180, v186_183, v186_184, v186_185, v186_187, v186_190, v186_192, v186_194, v186_195, v186_198, v186_199, v186_202, v186_203, v186_205, v186_206, v186_207, v186_210, v186_211, v186_213, v186_216, v186_217, v186_220, v186_223, v186_224, v186_226, v186_227, v186_230, v186_231, v186_232, v186_233, v186_234, v186_237, v186_238, v186_239, v186_242, v186_244, v186_245, v186_246, v186_247, v186_248, v186_251, v186_252, v186_255, v186_256, v186_257, v186_258, v186_261, v186_267, hM.f0, hM.f1, hM.f2, hM.f3, hM.f4, hM.f5, hM.f6, hM.f8, hM.f10, hM.f12, hM.f13, hM.f25, hM.f27, hM.f28, hM.f36, hM.f37, hM.f38, hM.f40, hM.k0, hM.k1, hM.k2, hM.k3, hM.k4, hM.k13, hM.k14, hM.k15, hM.k16, hM.k17, hM.k26, hM.k51, hM.k52, hM.k53, hM.k54, hM.k55, hM.k56, hM.k57, hM.k58, hM.n1, hM.n2, hM.n3, hM.n4, hM.n13, hM.n14, hM.n15, hM.n16, hM.n17, hM.n26, hM.n51, hM.n52, hM.n53, hM.n54, hM.n55, hM.n56, hM.n57, hM.n58, vrf_s, true_or, or_true, true_and, and_true, and_self, not_false_eq_true, ib7_0, ib7_1, ib7_2, ib7_3, ib7_4, ib7_5, ib7_6, ib3_0, ib3_1, ib3_2, ib4_0, ib4_1, ib4_2, ib4_3, tc0, tc1, tc2, tc3, tc4, tc5, tc6, gI_pJ, gI_pR, gJ_pI, gJ_pR, gR_pI, gR_pJ, gK_pI, gK_pJ, gK_pR, gN_pI, gN_pJ, gN_pR, gX_pI, gX_pJ, gX_pR, gS_pI, gS_pJ, gS_pR, gK_cpI, gN_cpI, gK_cpJ, gN_cpJ, gR_cpI, gR_cpJ, gJ_cpI, gI_cpJ, c2, i2, z2_f, reduceIte, n5, nI_1]
    exact kk _ _ _ _ _ (((Fr.rf.pI (Or.inl ⟨by omega, by omega⟩)).pI (Or.inl ⟨by omega, by omega⟩)).pI (Or.inl ⟨by omega, by omega⟩)) hB
  | true =>
    have hB := hD.base true
    rw [z2_t] at hB
    have e1 : moS s π M b = moT s π M b (tkN s π M b) := by unfold moS; rw [hco, if_pos rfl]
    rw [e1] at kk
    simp only [v186_0, v186_1, v186_4, v186_5, v186_6, v186_9, v186_10, v186_13, v186_14, v186_17, v186_18, v186_21, v186_22, v186_25, v186_26, v186_27, v186_28, v186_29, v186_30, v186_31, v186_34, v186_35, v186_38, v186_39, v186_40, v186_41, v186_44, v186_45, v186_48, v186_49, v186_52, v186_53, v186_54, v186_55, v186_56, v186_59, v186_60, v186_63, v186_64, v186_65, v186_66, v186_67, v186_68, v186_71, v186_72, v186_75, v186_77, v186_78, v186_81, v186_82, v186_83, v186_86, v186_87, v186_88, v186_89, v186_90, v186_91, v186_94, v186_97, v186_98, v186_101, v186_102, v186_103, v186_104, v186_105, v186_106, v186_109, v186_110, v186_113, v186_114, v186_117, v186_118, v186_119, v186_120, v186_123, v186_124, v186_125, v186_126, v186_127, v186_130, v186_131, v186_132, v186_133, v186_134, v186_137, v186_138, v186_139, v186_142, v186_143, v186_144, v186_147, v186_148, v186_149, v186_150, v186_151, v186_156, v186_157, v186_158, v186_161, v186_164, v186_165, v186_168, v186_169, v186_171, v186_173, v186_176, v186_177, v186_180, v186_183, v186_184, v186_185, v186_187, v186_190, v186_192, v186_194, v186_195, v186_198, v186_199, v186_202, v186_203, v186_205, v186_206, v186_207, v186_210, v186_211, v186_213, v186_216, v186_217, v186_220, v186_223, v186_224, v186_226, v186_227, v186_230, v186_231, v186_232, v186_233, v186_234, v186_237, v186_238, v186_239, v186_242, v186_244, v186_245, v186_246, v186_247, v186_248, v186_251, v186_252, v186_255, v186_256, v186_257, v186_258, v186_261, v186_267, hM.f0, hM.f1, hM.f2, hM.f3, hM.f4, hM.f5, hM.f6, hM.f8, hM.f10, hM.f12, hM.f13, hM.f25, hM.f27, hM.f28, hM.f36, hM.f37, hM.f38, hM.f40, hM.k0, hM.k1, hM.k2, hM.k3, hM.k4, hM.k13, hM.k14, hM.k15, hM.k16, hM.k17, hM.k26, hM.k51, hM.k52, hM.k53, hM.k54, hM.k55, hM.k56, hM.k57, hM.k58, hM.n1, hM.n2, hM.n3, hM.n4, hM.n13, hM.n14, hM.n15, hM.n16, hM.n17, hM.n26, hM.n51, hM.n52, hM.n53, hM.n54, hM.n55, hM.n56, hM.n57, hM.n58, vrf_s, true_or, or_true, true_and, and_true, and_self, not_false_eq_true, ib7_0, ib7_1, ib7_2, ib7_3, ib7_4, ib7_5, ib7_6, ib3_0, ib3_1, ib3_2, ib4_0, ib4_1, ib4_2, ib4_3, tc0, tc1, tc2, tc3, tc4, tc5, tc6, gI_pJ, gI_pR, gJ_pI, gJ_pR, gR_pI, gR_pJ, gK_pI, gK_pJ, gK_pR, gN_pI, gN_pJ, gN_pR, gX_pI, gX_pJ, gX_pR, gS_pI, gS_pJ, gS_pR, gK_cpI, gN_cpI, gK_cpJ, gN_cpJ, gR_cpI, gR_cpJ, gJ_cpI, gI_cpJ, c2, i2, z2_t, i10, reduceIte, n5, n6, u1, u2, u3, f0]
    generalize hh3 : pI (pI (pI h (m + 55) b 1) (m + 56) b (-1)) (m + 57) b 0 = h3 at hB ⊢
    have q3 : Fr (DW m) h h3 := by rw [← hh3]; exact ((Fr.rf.pI (Or.inl ⟨by omega, by omega⟩)).pI (Or.inl ⟨by omega, by omega⟩)).pI (Or.inl ⟨by omega, by omega⟩)
    refine c178 (hM.dw q3) (hP.dw hO q3) hO (sold := mS M) hB.1 g0 (fun h4 q4 hon => ?_)
    have q5 : Fr (DW m) h h4 := q3.tr (q4.mo (fun a j z => Or.inl ⟨by omega, by omega⟩))
    have hM4 := hM.dw q5
    have hP4 := hP.dw hO q5
    have hpp4 := hpp.dw q5
    have hB4 := hB.on q4
    have hdr : drN s (mS M) (sB s b 0) (sN s) ≤ 8 := Nat.le_trans (drN_le _ _ _) hn8
    have sl := fun (t : Nat) (ht : t < sN s) (v3 v4 : Value) => c186_s (K := K) hM4 hP4 hO hp hpp4 (M := M) hb ht hk hB4.2.1 many v3 v4
    have fin : ∀ (t : Nat) (v3 v4 v5 v6 : Value), t < sN s → tkN s π M b = some t → V 186 261 [.ref m, .int many, .int (nI b), v3, v4, v5, v6] [] (pI (pI (pI (pI h4 (m + 56) b (nI t)) (m + 57) b (nI (pdN s π b t))) (m + 53) t 1) m 39 (nI (mK M + pdN s π b t))) K := by
      intro t v3 v4 v5 v6 ht htk
      simp only [v186_261, nI_1]
      rw [htk] at kk
      refine kk _ _ _ _ _ ((((q5.pI (Or.inl ⟨by omega, by omega⟩)).pI (Or.inl ⟨by omega, by omega⟩)).pI (Or.inl ⟨by omega, by omega⟩)).pI (Or.inr ⟨rfl, rfl⟩)) ?_
      exact DP.sell (by omega) hB4
    show V 186 154 _ (pu (some _) []) h4 K
    cases ho : offQ π b with
    | some q =>
      have hof := offQ_s ho
      have e2 : gI h4 m 32 = nI b := by rw [hpp4.2.2.1, hof]; rfl
      have e3 := (hpp4.2.2.2.1 _ hof).1
      have htn : q.1 < sN s := (hp.2.2.1 _ hof).2.1
      have l1 : (nI q.1 = -1) = False := nm1 (by omega)
      have htk : tkN s π M b = some q.1 := by unfold tkN; rw [ho]
      rw [ho] at sl
      simp only [Option.isSome_some, z2_t] at sl
      simp only [pu_s, v186_0, v186_1, v186_4, v186_5, v186_6, v186_9, v186_10, v186_13, v186_14, v186_17, v186_18, v186_21, v186_22, v186_25, v186_26, v186_27, v186_28, v186_29, v186_30, v186_31, v186_34, v186_35, v186_38, v186_39, v186_40, v186_41, v186_44, v186_45, v186_48, v186_49, v186_52, v186_53, v186_54, v186_55, v186_56, v186_59, v186_60, v186_63, v186_64, v186_65, v186_66, v186_67, v186_68, v186_71, v186_72, v186_75, v186_77, v186_78, v186_81, v186_82, v186_83, v186_86, v186_87, v186_88, v186_89, v186_90, v186_91, v186_94, v186_97, v186_98, v186_101, v186_102, v186_103, v186_104, v186_105, v186_106, v186_109, v186_110, v186_113, v186_114, v186_117, v186_118, v186_119, v186_120, v186_123, v186_124, v186_125, v186_126, v186_127, v186_130, v186_131, v186_132, v186_133, v186_134, v186_137, v186_138, v186_139, v186_142, v186_143, v186_144, v186_147, v186_148, v186_149, v186_150, v186_151, v186_154, v186_156, v186_157, v186_158, v186_161, v186_164, v186_165, v186_168, v186_169, v186_171, v186_173, v186_176, v186_177, v186_180, v186_183, v186_184, v186_185, v186_187, v186_190, v186_192, v186_194, v186_195, v186_199, v186_202, v186_203, v186_205, v186_206, v186_207, v186_210, v186_211, v186_213, v186_216, v186_217, v186_220, v186_223, v186_224, v186_226, v186_227, v186_230, v186_231, v186_232, v186_233, v186_234, v186_237, v186_238, v186_239, v186_242, v186_244, v186_245, v186_246, v186_247, v186_248, v186_251, v186_252, v186_255, v186_256, v186_257, v186_258, v186_267, hM4.k0, e2, e3, not_true_eq_false, reduceIte, i10, l1, true_and]
      rw [sl q.1 htn]
      exact fin q.1 _ _ _ _ htn htk
    | none =>
      have e2 : (nI b = gI h4 m 32) = False := by
        rw [hpp4.2.2.1]
        cases hof : pOff π with
        | none => exact nm1 (by omega)
        | some w =>
          have : w.1 ≠ b := fun e => by
            unfold offQ at ho
            rw [hof] at ho
            dsimp only at ho
            rw [if_pos e] at ho
            cases ho
          have w24 := (hp.2.2.1 _ hof).1
          show (nI b = nI w.1) = False
          rw [neqN (by omega) (by omega)]
          exact eq_false (fun z => this z.symm)
      rw [ho] at sl
      simp only [Option.isSome_none, z2_f] at sl
      simp only [pu_s, v186_0, v186_1, v186_4, v186_5, v186_6, v186_9, v186_10, v186_13, v186_14, v186_17, v186_18, v186_21, v186_22, v186_25, v186_26, v186_27, v186_28, v186_29, v186_30, v186_31, v186_34, v186_35, v186_38, v186_39, v186_40, v186_41, v186_44, v186_45, v186_48, v186_49, v186_52, v186_53, v186_54, v186_55, v186_56, v186_59, v186_60, v186_63, v186_64, v186_65, v186_66, v186_67, v186_68, v186_71, v186_72, v186_75, v186_77, v186_78, v186_81, v186_82, v186_83, v186_86, v186_87, v186_88, v186_89, v186_90, v186_91, v186_94, v186_97, v186_98, v186_101, v186_102, v186_103, v186_104, v186_105, v186_106, v186_109, v186_110, v186_113, v186_114, v186_117, v186_118, v186_119, v186_120, v186_123, v186_124, v186_125, v186_126, v186_127, v186_130, v186_131, v186_132, v186_133, v186_134, v186_137, v186_138, v186_139, v186_142, v186_143, v186_144, v186_147, v186_148, v186_149, v186_150, v186_151, v186_154, v186_156, v186_157, v186_158, v186_161, v186_164, v186_165, v186_168, v186_169, v186_171, v186_173, v186_176, v186_177, v186_180, v186_183, v186_184, v186_185, v186_187, v186_192, v186_194, v186_195, v186_199, v186_202, v186_203, v186_205, v186_206, v186_207, v186_210, v186_211, v186_213, v186_216, v186_217, v186_220, v186_223, v186_224, v186_226, v186_227, v186_230, v186_231, v186_232, v186_233, v186_234, v186_237, v186_238, v186_239, v186_242, v186_244, v186_245, v186_246, v186_247, v186_248, v186_251, v186_252, v186_255, v186_256, v186_257, v186_258, v186_267, hM4.k0, e2, not_false_eq_true, reduceIte, true_and]
      refine c185 hM4 hP4 hO hpp4.2.1 hon hb hdr ?_
      have htk : tkN s π M b = (chN (onN s (mS M) (sB s b 0)) (fun t => prN s t (sB s b 0)) (fun t => pyN s (pCap π) b t (drN s (mS M) (sB s b 0) (sN s))) (sB s b 2) (sN s)).map (fun q => q.1) := by unfold tkN; rw [ho]
      generalize hC : chN (onN s (mS M) (sB s b 0)) (fun t => prN s t (sB s b 0)) (fun t => pyN s (pCap π) b t (drN s (mS M) (sB s b 0) (sN s))) (sB s b 2) (sN s) = C at htk ⊢
      cases C with
      | none =>
        show V 186 190 _ (pu (some (.int (-1))) []) h4 K
        simp only [pu_s, v186_190, v186_192, v186_194, v186_195, v186_261, reduceIte, nI_1]
        rw [htk] at kk
        exact kk _ _ _ _ _ q5 hB4
      | some q =>
        have htn : q.1 < sN s := (chN_lt _ _ hC).1
        have l1 : (nI q.1 = -1) = False := nm1 (by omega)
        show V 186 190 _ (pu (some (.int (nI q.1))) []) h4 K
        simp only [pu_s, v186_190, v186_192, v186_194, v186_195, reduceIte, l1]
        rw [sl q.1 htn]
        exact fin q.1 _ _ _ _ htn htk
end
