/-! THE REFERENCE'S taken, home, gain -/
section
variable {m : Nat} {s : SG} {h h1 : Hp} {K : Option Value → Hp → Prop}
theorem c192 (hM : MSh m h) (hP : MP m s h) (hO : SOk s) (hpp : PP m p0 h) (kk : ∀ h2, Fr (DW m) h h2 → DP m (mo s p0 (sM s)) (sM s) h2 → K (some (.int (nI (mK (mo s p0 (sM s)))))) h2) : AM 192 [.ref m] h K := by
  simp only [e192, v192_0, v192_1, v192_2, hM.k0, true_and, hP.2.1, v192_5]
  refine c186 hM hP hO (p0_ok s) hpp (Nat.le_refl _) (fun h2 q2 hD => ?_)
  have hM2 := hM.dw q2
  show V 192 8 _ (pu none []) h2 K
  simp only [pu_n, v192_0, v192_1, v192_2, v192_5, v192_8, v192_9, v192_12, hM2.k0, true_and, hD.2.1]
  exact kk h2 q2 hD
theorem c194 (hM : MSh m h) (hP : MP m s h) (hO : SOk s) (hpp : PP m p0 h) (kk : ∀ h2, Fr (DW m) h h2 → DP m (mo s p0 (sM s)) (sM s) h2 → K (some (.int (nI (hoN s p0)))) h2) : AM 194 [.ref m] h K := by
  simp only [e194, v194_0, v194_1, v194_2, hM.k0, true_and, hP.2.1, v194_5]
  refine c186 hM hP hO (p0_ok s) hpp (Nat.le_refl _) (fun h2 q2 hD => ?_)
  have hM2 := hM.dw q2
  show V 194 8 _ (pu none []) h2 K
  simp only [pu_n, v194_0, v194_1, v194_2, v194_5, v194_8, v194_9, v194_12, hM2.k0, true_and, c187 hM2 (hP.dw hO q2) hO hD.1, pu_s]
  exact kk h2 q2 hD
theorem c195 (hM : MSh m h) (hP : MP m s h) (hO : SOk s) (hpp : PP m p0 h) (kk : ∀ h2, Fr (DW m) h h2 → DP m (mo s p0 (sM s)) (sM s) h2 → K (some (.int (gaI s p0))) h2) : AM 195 [.ref m] h K := by
  simp only [e195, v195_0, v195_1, hM.k0, true_and]
  refine c188 hM hP hO (p0_ok s) hpp (fun h2 q2 hD => ?_)
  show V 195 4 _ (pu (some _) []) h2 K
  simp only [pu_s, v195_0, v195_1, v195_4]
  exact kk h2 q2 hD
end
