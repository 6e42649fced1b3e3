/-! the reference's goesBy and gainNow -/
section
variable {m : Nat} {s : SG} {π : PR} {h h1 : Hp} {K : Option Value → Hp → Prop}
theorem c186_l (hM : MSh m h) (hP : MP m s h) (hO : SOk s) (hp : POk s π) (hpp : PP m π h) {many : Nat} (hm : many ≤ sM s) (kk : ∀ h2, Fr (DW m) h h2 → DP m (mo s π many) many h2 → K none h2) :
    ∀ (j b : Nat) (h1 : Hp) (v3 v4 v5 v6 : Value), b + j = many → Fr (DW m) h h1 → DP m (mo s π b) b h1 → V 186 29 [.ref m, .int (nI many), .int (nI b), v3, v4, v5, v6] [] h1 K := by
  intro j
  have hm24 := hO.2.1
  induction j with
  | zero =>
    intro b h1 v3 v4 v5 v6 hi hf hD
    have e : b = many := by omega
    subst e
    have e8 : (nI b ≤ nI b) = True := eq_true (nI_le (Nat.le_refl _) (by omega))
    simp only [v186_29, v186_30, v186_31, e8, reduceIte, v186_267]
    exact kk h1 hf hD
  | succ j ih =>
    intro b h1 v3 v4 v5 v6 hi hf hD
    have lt : (nI many ≤ nI b) = False := eq_false (nI_ge (by omega) (by omega))
    simp only [v186_29, v186_30, v186_31, lt, reduceIte]
    refine c186_b (hM.dw hf) (hP.dw hO hf) hO hp (hpp.dw hf) (by omega) hD (mo_le hO hp b) _ _ _ _ _ (fun h2 w3 w4 w5 w6 q2 hD2 => ?_)
    rw [v186_264]
    exact ih (b + 1) h2 _ _ _ _ (by omega) (hf.tr q2) hD2
/-- goesBy -/
theorem c186 (hM : MSh m h) (hP : MP m s h) (hO : SOk s) (hp : POk s π) (hpp : PP m π h) {many : Nat} (hm : many ≤ sM s) (kk : ∀ h2, Fr (DW m) h h2 → DP m (mo s π many) many h2 → K none h2) : AM 186 [.ref m, .int (nI many)] h K := by
  have hn8 := hO.1
  simp only [e186, v186_0, v186_1, hM.k0, true_and]
  refine c179 hM (fun h2 q2 hz => ?_)
  have q3 : Fr (DW m) h h2 := q2.mo (fun a j z => Or.inl ⟨by omega, by omega⟩)
  have hM2 := hM.dw q3
  have hpp2 := hpp.dw q3
  have n0 : gI (pI h2 m 39 0) m 35 = gI h2 m 35 := gI_ne (by omega)
  show V 186 4 _ (pu none []) h2 K
  have hl : ∀ (h3 : Hp) (v2 v3 v4 v5 v6 : Value), Fr (DW m) h h3 → (∀ t, t < 8 → gI h3 (m + 53) t = z2 (decide (pHm π = some t))) → gI h3 m 39 = 0 → V 186 27 [.ref m, .int (nI many), v2, v3, v4, v5, v6] [] h3 K := by
    intro h3 v2 v3 v4 v5 v6 hf hs hk
    simp only [v186_27, v186_28]
    exact c186_l hM hP hO hp hpp hm kk many 0 h3 _ _ _ _ (Nat.zero_add _) hf ⟨hs, hk, fun u hu => absurd hu (Nat.not_lt_zero u)⟩
  cases hh : pHm π with
  | none =>
    have e5 : gI h2 m 35 = -1 := by rw [hpp2.2.2.2.2, hh]; rfl
    simp only [pu_n, v186_0, v186_1, v186_4, v186_5, v186_6, v186_9, v186_10, v186_13, v186_14, v186_17, v186_18, v186_21, v186_22, v186_25, v186_26, v186_28, v186_30, v186_31, v186_34, v186_35, v186_38, v186_39, v186_40, v186_41, v186_44, v186_45, v186_48, v186_49, v186_52, v186_53, v186_54, v186_55, v186_56, v186_59, v186_60, v186_63, v186_64, v186_65, v186_66, v186_67, v186_68, v186_71, v186_72, v186_75, v186_76, v186_77, v186_78, v186_81, v186_82, v186_83, v186_86, v186_87, v186_88, v186_89, v186_90, v186_91, v186_94, v186_97, v186_98, v186_101, v186_102, v186_103, v186_104, v186_105, v186_106, v186_109, v186_110, v186_113, v186_114, v186_117, v186_118, v186_119, v186_120, v186_123, v186_124, v186_125, v186_126, v186_127, v186_130, v186_131, v186_132, v186_133, v186_134, v186_137, v186_138, v186_139, v186_142, v186_143, v186_144, v186_147, v186_148, v186_149, v186_150, v186_151, v186_154, v186_156, v186_157, v186_158, v186_161, v186_164, v186_165, v186_168, v186_169, v186_171, v186_173, v186_176, v186_177, v186_180, v186_183, v186_184, v186_185, v186_187, v186_190, v186_192, v186_194, v186_195, v186_198, v186_199, v186_202, v186_203, v186_205, v186_206, v186_207, v186_210, v186_211, v186_213, v186_216, v186_217, v186_220, v186_223, v186_224, v186_226, v186_227, v186_230, v186_231, v186_232, v186_233, v186_234, v186_237, v186_238, v186_239, v186_242, v186_244, v186_245, v186_246, v186_247, v186_248, v186_251, v186_252, v186_255, v186_256, v186_257, v186_258, v186_261, v186_267, hM.f0, hM.f1, hM.f2, hM.f3, hM.f4, hM.f5, hM.f6, hM.f8, hM.f10, hM.f12, hM.f13, hM.f25, hM.f27, hM.f28, hM.f36, hM.f37, hM.f38, hM.f40, hM.k0, hM.k1, hM.k2, hM.k3, hM.k4, hM.k13, hM.k14, hM.k15, hM.k16, hM.k17, hM.k26, hM.k51, hM.k52, hM.k53, hM.k54, hM.k55, hM.k56, hM.k57, hM.k58, hM.n1, hM.n2, hM.n3, hM.n4, hM.n13, hM.n14, hM.n15, hM.n16, hM.n17, hM.n26, hM.n51, hM.n52, hM.n53, hM.n54, hM.n55, hM.n56, hM.n57, hM.n58, vrf_s, true_or, or_true, true_and, and_true, and_self, not_false_eq_true, hM2.k0, gI_pJ, gI_pR, gJ_pI, gJ_pR, gR_pI, gR_pJ, gK_pI, gK_pJ, gK_pR, gN_pI, gN_pJ, gN_pR, gX_pI, gX_pJ, gX_pR, gS_pI, gS_pJ, gS_pR, gK_cpI, gN_cpI, gK_cpJ, gN_cpJ, gR_cpI, gR_cpJ, gJ_cpI, gI_cpJ, n0, e5, reduceIte]
    refine hl _ _ _ _ _ _ (q3.pI (Or.inr ⟨rfl, rfl⟩)) (fun t ht => ?_) (gI_at _ _ _ _)
    rw [gI_ne (by omega), hz t ht, hh]
    rfl
  | some w =>
    have hw := hp.2.2.2 w hh
    have e5 : gI h2 m 35 = nI w := by rw [hpp2.2.2.2.2, hh]; rfl
    have l1 : (nI w = -1) = False := nm1 (by omega)
    have c1 : (nI w).toNatClampNeg = w := nIc (by omega)
    have i1 : inb (nI w) 8 = True := nIb (by omega) (by omega)
    have n53 := hM2.k53
    have m53 := hM2.n53
    have f27 := hM2.f27
    simp only [pu_n, v186_0, v186_1, v186_4, v186_5, v186_6, v186_9, v186_10, v186_13, v186_14, v186_17, v186_18, v186_21, v186_22, v186_25, v186_26, v186_28, v186_30, v186_31, v186_34, v186_35, v186_38, v186_39, v186_40, v186_41, v186_44, v186_45, v186_48, v186_49, v186_52, v186_53, v186_54, v186_55, v186_56, v186_59, v186_60, v186_63, v186_64, v186_65, v186_66, v186_67, v186_68, v186_71, v186_72, v186_75, v186_76, v186_77, v186_78, v186_81, v186_82, v186_83, v186_86, v186_87, v186_88, v186_89, v186_90, v186_91, v186_94, v186_97, v186_98, v186_101, v186_102, v186_103, v186_104, v186_105, v186_106, v186_109, v186_110, v186_113, v186_114, v186_117, v186_118, v186_119, v186_120, v186_123, v186_124, v186_125, v186_126, v186_127, v186_130, v186_131, v186_132, v186_133, v186_134, v186_137, v186_138, v186_139, v186_142, v186_143, v186_144, v186_147, v186_148, v186_149, v186_150, v186_151, v186_154, v186_156, v186_157, v186_158, v186_161, v186_164, v186_165, v186_168, v186_169, v186_171, v186_173, v186_176, v186_177, v186_180, v186_183, v186_184, v186_185, v186_187, v186_190, v186_192, v186_194, v186_195, v186_198, v186_199, v186_202, v186_203, v186_205, v186_206, v186_207, v186_210, v186_211, v186_213, v186_216, v186_217, v186_220, v186_223, v186_224, v186_226, v186_227, v186_230, v186_231, v186_232, v186_233, v186_234, v186_237, v186_238, v186_239, v186_242, v186_244, v186_245, v186_246, v186_247, v186_248, v186_251, v186_252, v186_255, v186_256, v186_257, v186_258, v186_261, v186_267, hM2.k0, gI_pJ, gI_pR, gJ_pI, gJ_pR, gR_pI, gR_pJ, gK_pI, gK_pJ, gK_pR, gN_pI, gN_pJ, gN_pR, gX_pI, gX_pJ, gX_pR, gS_pI, gS_pJ, gS_pR, gK_cpI, gN_cpI, gK_cpJ, gN_cpJ, gR_cpI, gR_cpJ, gJ_cpI, gI_cpJ, n0, e5, l1, reduceIte, f27, n53, m53, vrf_s, c1, i1, i10, or_true, and_self, true_and]
    refine hl _ _ _ _ _ _ ((q3.pI (Or.inr ⟨rfl, rfl⟩)).pI (Or.inl ⟨by omega, by omega⟩)) (fun t ht => ?_) ?_
    · rw [hh]
      by_cases e : t = w
      · subst e
        rw [gI_at, decide_eq_true rfl]
        rfl
      · rw [gI_ne (by omega), gI_ne (by omega), hz t ht, decide_eq_false (fun z => e (Option.some.inj z).symm)]
        rfl
    · rw [gI_ne (by omega)]
      exact gI_at _ _ _ _
/-- what a morning brings -/
def hoN (s : SG) (π : PR) : Nat := sA s 3 * hmN s (mS (mo s π (sM s))) (sN s)
def gaN (s : SG) (π : PR) : Int := (mK (mo s π (sM s)) : Int) - (hoN s π : Int)
def gaI (s : SG) (π : PR) : Int32 := nI (mK (mo s π (sM s))) - nI (hoN s π)
theorem hoN_le {s : SG} {π : PR} (hO : SOk s) : hoN s π ≤ 648 := by
  have h1 := hmN_le hO (mS (mo s π (sM s))) (sN s) (Nat.le_refl _)
  have h2 := hO.1
  have h3 : sA s 3 * hmN s (mS (mo s π (sM s))) (sN s) ≤ 9 * 72 := Nat.mul_le_mul hO.2.2.2.2.2.2.2.2.2 (by omega)
  exact h3
theorem gaI_toInt {s : SG} {π : PR} (hO : SOk s) (hp : POk s π) : (gaI s π).toInt = gaN s π := by
  have h1 := hoN_le (π := π) hO
  have h2 := mo_le hO hp (sM s)
  have h3 := hO.2.1
  unfold gaI gaN
  rw [Int32.toInt_sub, nI_toInt (by omega), nI_toInt (by omega)]
  simp only [Int.bmod]
  split <;> omega
/-- gainNow -/
theorem c188 (hM : MSh m h) (hP : MP m s h) (hO : SOk s) (hp : POk s π) (hpp : PP m π h) (kk : ∀ h2, Fr (DW m) h h2 → DP m (mo s π (sM s)) (sM s) h2 → K (some (.int (gaI s π))) h2) : AM 188 [.ref m] h K := by
  simp only [e188, v188_0, v188_1, v188_2, hM.k0, true_and, hP.2.1, v188_5]
  refine c186 hM hP hO hp hpp (Nat.le_refl _) (fun h2 q2 hD => ?_)
  have hM2 := hM.dw q2
  show V 188 8 _ (pu none []) h2 K
  simp only [pu_n, v188_8, v188_9, v188_12, v188_13, hM2.k0, true_and, hD.2.1, c187 hM2 (hP.dw hO q2) hO hD.1, pu_s, v188_16, v188_17]
  exact kk h2 q2 hD
end
