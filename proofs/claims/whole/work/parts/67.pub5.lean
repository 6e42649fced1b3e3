/-! WHAT A MORNING SHOWS: buys, comes, who, taken, left, home, gain, hour; the best ones -/
def mN (A : XA) : MS := mo (aS A) p0 (sM (aS A))
def oBuys (A : XA) (p : Int32) : XA × Int32 := match thI (sM (aS A)) p with
  | none => rfI A 0 (-2)
  | some p => (A, oI (mB (mN A) p))
def oCms (A : XA) (p : Int32) : XA × Int32 := match thI (sM (aS A)) p with
  | none => rfI A 0 (-2)
  | some p => (A, z2 (mC (mN A) p))
def oWho (A : XA) (t : Int32) : XA × Int32 := match thI (sN (aS A)) t with
  | none => rfI A 0 (-2)
  | some t => (A, oI (whB (mB (mN A)) (sM (aS A)) t))
def bhN (f : Nat → Nat) : Nat → Nat
  | 0 => 0
  | h + 1 => if f (bhN f h) < f (h + 1) then h + 1 else bhN f h
theorem bhN_le (f : Nat → Nat) : ∀ h : Nat, bhN f h ≤ h
  | 0 => Nat.le_refl _
  | h + 1 => by
    have ih := bhN_le f h
    unfold bhN
    split <;> omega
def tiA (A : XA) : Nat → Nat := tiB (fun u => sB (aS A) u 0) (mD (mN A)) (sM (aS A))
def oBMk (A : XA) (t : Int32) : XA × Int32 := match thI (sN (aS A)) t with
  | none => rfI A 0 (-2)
  | some t => (A, nI (bfN (fun v => gaI (sgT (aS A) t 5 v) p0) 0 99).1)
def oBFr (A : XA) (t : Int32) : XA × Int32 := match thI (sN (aS A)) t with
  | none => rfI A 0 (-2)
  | some t => (A, nI (bfN (fun v => gaI (sgT (aS A) t 6 v) p0) 0 7).1)
def bsA (A : XA) (k : Nat) : Int32 := nI (bfN (fun v => gaI (sgA (aS A) k v) p0) (loA k) (hiA k - loA k)).1
theorem moD_le {s : SG} {π : PR} (hO : SOk s) (hp : POk s π) : ∀ b u : Nat, mD (mo s π b) u ≤ 99
  | 0, u => Nat.zero_le _
  | b + 1, u => by
    have ih := moD_le hO hp b u
    show mD (moS s π (mo s π b) b) u ≤ 99
    unfold moS
    split
    · unfold moT
      split
      · rename_i t ht
        show up (mD (mo s π b)) b (pdN s π b t) u ≤ 99
        by_cases e : u = b
        · subst e; rw [up_at]; exact pdN_le hO hp (tkN_lt hp ht)
        · rw [up_ne e]; exact ih
      · show up (mD (mo s π b)) b 0 u ≤ 99
        by_cases e : u = b
        · subst e; rw [up_at]; omega
        · rw [up_ne e]; exact ih
    · show up (mD (mo s π b)) b 0 u ≤ 99
      by_cases e : u = b
      · subst e; rw [up_at]; omega
      · rw [up_ne e]; exact ih
theorem moB_lt {s : SG} {π : PR} (hp : POk s π) : ∀ b u t : Nat, mB (mo s π b) u = some t → t < sN s
  | 0, u, t, h => by cases h
  | b + 1, u, t, h => by
    change mB (moS s π (mo s π b) b) u = some t at h
    by_cases e : u = b
    · subst e
      unfold moS at h
      split at h
      · unfold moT at h
        split at h
        · rename_i x hx
          change up (mB (mo s π u)) u (some x) u = some t at h
          rw [up_at] at h
          cases h
          exact tkN_lt hp hx
        · change up (mB (mo s π u)) u none u = some t at h
          rw [up_at] at h
          cases h
      · change up (mB (mo s π u)) u none u = some t at h
        rw [up_at] at h
        cases h
    · rw [moS_mB e] at h
      exact moB_lt hp b u t h
theorem tiA_le {A : XA} (hW : WF A) (x : Nat) : tiA A x ≤ 2376 := by
  have h1 := tiB_le (ho := fun u => sB (aS A) u 0) (f := mD (mN A)) x (sM (aS A)) (fun u _ => moD_le hW.1 (p0_ok _) _ _)
  have := hW.1.2.1
  unfold tiA
  omega
section
variable {b m : Nat} {u : LU} {A : XA} {h h1 : Hp} {K : Option Value → Hp → Prop}
theorem TWc : ∀ x j : Nat, TW (b + 74) (b + 110) x j → b + 73 ≤ x ∧ x < b + 117 := fun x j z => by unfold TW at z; omega
theorem TWw : ∀ x j : Nat, TW (b + 74) (b + 110) x j → CW b x j := fun x j z => by unfold TW at z; unfold CW; omega
/-- asItIs -/
theorem k120 (hC : CL b A h) (hW : WF A) (kk : ∀ (h2 : Hp) (ρ β : Nat → Nat), Fr (CW b) h h2 → CL b A h2 → TP (b + 73) (b + 74) (b + 110) ρ β (aS A) p0 h2 → GD (b + 110) (aS A) p0 h2 → K (some (.ref (b + 110))) h2) : AM 120 [.ref b] h K := by
  obtain ⟨⟨cn, kb, f0, f1, f3, f4, f5, f6⟩, ⟨ρ, β, hQ, hV, hO, -⟩, -, ⟨ρ', β', hT⟩, -⟩ := id hC
  have k5 : gK h (b + 73) = 5 := hT.1
  simp only [e120, v120_0, v120_1, v120_4, v120_5, v120_8, kb, f3, f0, vrf_s, k5, true_and]
  refine c44 cn (by omega) hT (by omega) hQ hV hO (fun h2 q2 hP2 hG2 => ?_)
  have hC2 := hC.ut hW q2 TWc ⟨ρ', β', hP2.1⟩
  obtain ⟨⟨-, kb2, -, -, g3, -⟩, -⟩ := id hC2
  have k52 := hP2.1.1
  have r2 := hP2.1.2.2.1
  simp only [pu_s, v120_0, v120_1, v120_4, v120_5, v120_8, v120_11, v120_12, v120_13, v120_16, v120_19, kb2, g3, vrf_s, k52, r2, true_and]
  exact kk h2 ρ' β' (q2.mo TWw) hC2 hP2 hG2
theorem k74 (hC : CL b A h) (hW : WF A) (p : Int32) (kk : ∀ h2, Fr (CW b) h h2 → CL b (oBuys A p).1 h2 → K (some (.int (oBuys A p).2)) h2) : AM 74 [.ref b, .int p] h K := by
  obtain ⟨⟨cn, kb, f0, f1, f3, f4, f5, f6⟩, hST, hKP, hTR, hTA, ⟨s1, s2, s3⟩, hRF⟩ := id hC
  unfold oBuys at kk
  cases h0 : thI (sM (aS A)) p with
  | none =>
    rw [h0] at kk
    simp only [e74, v74_0, v74_1, v74_2, v74_5, v74_8, v74_9, v74_11, kb, f0, f1, f3, f4, f5, f6, vrf_s, true_and, true_or, or_true, and_self, not_false_eq_true, pu_s, pu_n, z2_e0, z2_n0, z2_t, z2_f, k112 hC hW, h0, Option.isSome_none, reduceIte]
    exact k108 (w := 0) hC hW (by decide) (by decide) (fun h2 q2 hC2 => by simp only [pu_s, v74_14]; exact kk h2 q2 hC2)
  | some t =>
    rw [h0] at kk
    have hm := hW.1.2.1
    obtain ⟨rfl, ht⟩ := thI_s (by omega) h0
    simp only [e74, v74_0, v74_1, v74_2, v74_5, v74_15, v74_16, kb, f0, f1, f3, f4, f5, f6, vrf_s, true_and, true_or, or_true, and_self, not_false_eq_true, pu_s, pu_n, z2_e0, z2_n0, z2_t, z2_f, k112 hC hW, h0, Option.isSome_some, i10, reduceIte]
    refine k120 hC hW (fun h2 ρ β q2 hC2 hP2 hG2 => ?_)
    obtain ⟨w1, w2, w3, w4, w5, w6, w7, w8, w9, w10, w11, w12, w13, w14, w15, w16, w17, w18, w19, w20⟩ := hP2.2.2.1
    have c1 : (nI t).toNatClampNeg = t := nIc (by omega)
    have i1 : inb (nI t) 24 = True := nIb (by omega) (by omega)
    have ee := hG2.1.2.1 t ht
    simp only [pu_s, v74_19, v74_22, v74_23, v74_24, w1, w3, w10, w16, vrf_s, c1, i1, ee, true_and, true_or, and_self]
    exact kk h2 q2 hC2
theorem k189 (hR : MR m u A h) (hW : WF A) (p : Int32) (kk : ∀ (h2 : Hp) (u2 : LU), MG m h h2 → MR m u2 (oBuys A p).1 h2 → K (some (.int (oBuys A p).2)) h2) : AM 189 [.ref m, .int p] h K := by
  obtain ⟨r0, hM, hpp, hP, hQ, hS, hT, hF, hL⟩ := id hR
  unfold oBuys at kk
  replace kk := fun h2 => kk h2 u
  cases h0 : thI (sM (aS A)) p with
  | none =>
    rw [h0] at kk
    simp only [v189_0, v189_1, v189_2, v189_5, v189_8, v189_9, v189_11, v189_14, v189_15, v189_16, v189_17, v189_20, v189_23, v189_24, v189_27, v189_28, v189_29, e189, hM.f0, hM.f1, hM.f2, hM.f3, hM.f4, hM.f5, hM.f6, hM.f8, hM.f10, hM.f12, hM.f13, hM.f25, hM.f27, hM.f28, hM.f36, hM.f37, hM.f38, hM.f40, hM.k0, hM.k1, hM.k2, hM.k3, hM.k4, hM.k13, hM.k14, hM.k15, hM.k16, hM.k17, hM.k26, hM.k51, hM.k52, hM.k53, hM.k54, hM.k55, hM.k56, hM.k57, hM.k58, hM.n1, hM.n2, hM.n3, hM.n4, hM.n13, hM.n14, hM.n15, hM.n16, hM.n17, hM.n26, hM.n51, hM.n52, hM.n53, hM.n54, hM.n55, hM.n56, hM.n57, hM.n58, vrf_s, true_or, or_true, true_and, and_true, and_self, not_false_eq_true, pu_s, pu_n, z2_e0, z2_n0, z2_t, z2_f, k137 hR hW, h0, Option.isSome_none, reduceIte]
    exact k134 (w := 0) hR hW (by decide) (by decide) (fun h2 q2 hR2 => by simp only [pu_s, v189_14]; exact kk h2 (MG.of q2 (fun a j z => by omega)) hR2)
  | some t =>
    rw [h0] at kk
    have hm := hW.1.2.1
    obtain ⟨rfl, ht⟩ := thI_s (by omega) h0
    simp only [e189, v189_0, v189_1, v189_2, v189_5, v189_15, v189_16, v189_17, v189_20, hM.f0, hM.f1, hM.f2, hM.f3, hM.f4, hM.f5, hM.f6, hM.f8, hM.f10, hM.f12, hM.f13, hM.f25, hM.f27, hM.f28, hM.f36, hM.f37, hM.f38, hM.f40, hM.k0, hM.k1, hM.k2, hM.k3, hM.k4, hM.k13, hM.k14, hM.k15, hM.k16, hM.k17, hM.k26, hM.k51, hM.k52, hM.k53, hM.k54, hM.k55, hM.k56, hM.k57, hM.k58, hM.n1, hM.n2, hM.n3, hM.n4, hM.n13, hM.n14, hM.n15, hM.n16, hM.n17, hM.n26, hM.n51, hM.n52, hM.n53, hM.n54, hM.n55, hM.n56, hM.n57, hM.n58, vrf_s, true_or, or_true, true_and, and_true, and_self, not_false_eq_true, pu_s, pu_n, z2_e0, z2_n0, z2_t, z2_f, k137 hR hW, h0, Option.isSome_some, i10, reduceIte, hP.2.1]
    refine c186 hM hP hW.1 (p0_ok _) hpp (Nat.le_refl _) (fun h2 q2 hD => ?_)
    have hM2 := hM.dw q2
    have c1 : (nI t).toNatClampNeg = t := nIc (by omega)
    have i1 : inb (nI t) 24 = True := nIb (by omega) (by omega)
    have ee := (hD.2.2 t ht).2.1
    simp only [pu_n, v189_23, v189_24, v189_27, v189_28, v189_29, hM2.k0, hM2.f37, hM2.k56, hM2.n56, vrf_s, c1, i1, ee, true_and, true_or, and_self]
    exact kk h2 (MG.of q2 (fun a j z => by unfold DW at z; omega)) (hR.sc hW q2 (fun a j z => z.z))
theorem k75 (hC : CL b A h) (hW : WF A) (p : Int32) (kk : ∀ h2, Fr (CW b) h h2 → CL b (oCms A p).1 h2 → K (some (.int (oCms A p).2)) h2) : AM 75 [.ref b, .int p] h K := by
  obtain ⟨⟨cn, kb, f0, f1, f3, f4, f5, f6⟩, hST, hKP, hTR, hTA, ⟨s1, s2, s3⟩, hRF⟩ := id hC
  unfold oCms at kk
  cases h0 : thI (sM (aS A)) p with
  | none =>
    rw [h0] at kk
    simp only [e75, v75_0, v75_1, v75_2, v75_5, v75_8, v75_9, v75_11, kb, f0, f1, f3, f4, f5, f6, vrf_s, true_and, true_or, or_true, and_self, not_false_eq_true, pu_s, pu_n, z2_e0, z2_n0, z2_t, z2_f, k112 hC hW, h0, Option.isSome_none, reduceIte]
    exact k108 (w := 0) hC hW (by decide) (by decide) (fun h2 q2 hC2 => by simp only [pu_s, v75_14]; exact kk h2 q2 hC2)
  | some t =>
    rw [h0] at kk
    have hm := hW.1.2.1
    obtain ⟨rfl, ht⟩ := thI_s (by omega) h0
    simp only [e75, v75_0, v75_1, v75_2, v75_5, v75_15, v75_16, kb, f0, f1, f3, f4, f5, f6, vrf_s, true_and, true_or, or_true, and_self, not_false_eq_true, pu_s, pu_n, z2_e0, z2_n0, z2_t, z2_f, k112 hC hW, h0, Option.isSome_some, i10, reduceIte]
    refine k120 hC hW (fun h2 ρ β q2 hC2 hP2 hG2 => ?_)
    have w1 : gK h2 (b + 110) = 1 := hP2.2.2.1.1
    have f := kk h2 q2 hC2
    change K (some (.int (z2 (mC (mo (aS A) p0 (sM (aS A))) t)))) h2 at f
    cases hc : mC (mo (aS A) p0 (sM (aS A))) t with
    | true =>
      rw [hc] at f
      simp only [pu_s, v75_19, v75_20, v75_23, v75_26, v75_27, v75_31, w1, c5 hP2 hW.1 hG2 ht, hc, z2_t, i10, reduceIte, true_and]
      exact f
    | false =>
      rw [hc] at f
      simp only [pu_s, v75_19, v75_20, v75_23, v75_30, v75_31, w1, c5 hP2 hW.1 hG2 ht, hc, z2_f, reduceIte, true_and]
      exact f
theorem k190 (hR : MR m u A h) (hW : WF A) (p : Int32) (kk : ∀ (h2 : Hp) (u2 : LU), MG m h h2 → MR m u2 (oCms A p).1 h2 → K (some (.int (oCms A p).2)) h2) : AM 190 [.ref m, .int p] h K := by
  obtain ⟨r0, hM, hpp, hP, hQ, hS, hT, hF, hL⟩ := id hR
  unfold oCms at kk
  replace kk := fun h2 => kk h2 u
  cases h0 : thI (sM (aS A)) p with
  | none =>
    rw [h0] at kk
    simp only [v190_0, v190_1, v190_2, v190_5, v190_8, v190_9, v190_11, v190_14, v190_15, v190_16, v190_17, v190_20, v190_23, v190_24, v190_27, v190_28, v190_29, v190_32, v190_33, v190_36, v190_37, e190, hM.f0, hM.f1, hM.f2, hM.f3, hM.f4, hM.f5, hM.f6, hM.f8, hM.f10, hM.f12, hM.f13, hM.f25, hM.f27, hM.f28, hM.f36, hM.f37, hM.f38, hM.f40, hM.k0, hM.k1, hM.k2, hM.k3, hM.k4, hM.k13, hM.k14, hM.k15, hM.k16, hM.k17, hM.k26, hM.k51, hM.k52, hM.k53, hM.k54, hM.k55, hM.k56, hM.k57, hM.k58, hM.n1, hM.n2, hM.n3, hM.n4, hM.n13, hM.n14, hM.n15, hM.n16, hM.n17, hM.n26, hM.n51, hM.n52, hM.n53, hM.n54, hM.n55, hM.n56, hM.n57, hM.n58, vrf_s, true_or, or_true, true_and, and_true, and_self, not_false_eq_true, pu_s, pu_n, z2_e0, z2_n0, z2_t, z2_f, k137 hR hW, h0, Option.isSome_none, reduceIte]
    exact k134 (w := 0) hR hW (by decide) (by decide) (fun h2 q2 hR2 => by simp only [pu_s, v190_14]; exact kk h2 (MG.of q2 (fun a j z => by omega)) hR2)
  | some t =>
    rw [h0] at kk
    have hm := hW.1.2.1
    obtain ⟨rfl, ht⟩ := thI_s (by omega) h0
    simp only [e190, v190_0, v190_1, v190_2, v190_5, v190_15, v190_16, v190_17, v190_20, hM.f0, hM.f1, hM.f2, hM.f3, hM.f4, hM.f5, hM.f6, hM.f8, hM.f10, hM.f12, hM.f13, hM.f25, hM.f27, hM.f28, hM.f36, hM.f37, hM.f38, hM.f40, hM.k0, hM.k1, hM.k2, hM.k3, hM.k4, hM.k13, hM.k14, hM.k15, hM.k16, hM.k17, hM.k26, hM.k51, hM.k52, hM.k53, hM.k54, hM.k55, hM.k56, hM.k57, hM.k58, hM.n1, hM.n2, hM.n3, hM.n4, hM.n13, hM.n14, hM.n15, hM.n16, hM.n17, hM.n26, hM.n51, hM.n52, hM.n53, hM.n54, hM.n55, hM.n56, hM.n57, hM.n58, vrf_s, true_or, or_true, true_and, and_true, and_self, not_false_eq_true, pu_s, pu_n, z2_e0, z2_n0, z2_t, z2_f, k137 hR hW, h0, Option.isSome_some, i10, reduceIte, hP.2.1]
    refine c186 hM hP hW.1 (p0_ok _) hpp (Nat.le_refl _) (fun h2 q2 hD => ?_)
    have hM2 := hM.dw q2
    have c1 : (nI t).toNatClampNeg = t := nIc (by omega)
    have i1 : inb (nI t) 24 = True := nIb (by omega) (by omega)
    have ee := (hD.2.2 t ht).1
    have f := kk h2 (MG.of q2 (fun a j z => by unfold DW at z; omega)) (hR.sc hW q2 (fun a j z => z.z))
    change K (some (.int (z2 (mC (mo (aS A) p0 (sM (aS A))) t)))) h2 at f
    cases hc : mC (mo (aS A) p0 (sM (aS A))) t with
    | true =>
      rw [hc] at f ee
      simp only [pu_n, v190_23, v190_24, v190_27, v190_28, v190_29, v190_32, v190_33, v190_37, hM2.k0, hM2.f36, hM2.k55, hM2.n55, vrf_s, c1, i1, ee, z2_t, i10, reduceIte, true_and, true_or, and_self]
      exact f
    | false =>
      rw [hc] at f ee
      simp only [pu_n, v190_23, v190_24, v190_27, v190_28, v190_29, v190_36, v190_37, hM2.k0, hM2.f36, hM2.k55, hM2.n55, vrf_s, c1, i1, ee, z2_f, reduceIte, true_and, true_or, and_self]
      exact f
theorem k76 (hC : CL b A h) (hW : WF A) (p : Int32) (kk : ∀ h2, Fr (CW b) h h2 → CL b (oWho A p).1 h2 → K (some (.int (oWho A p).2)) h2) : AM 76 [.ref b, .int p] h K := by
  obtain ⟨⟨cn, kb, f0, f1, f3, f4, f5, f6⟩, hST, hKP, hTR, hTA, ⟨s1, s2, s3⟩, hRF⟩ := id hC
  unfold oWho at kk
  cases h0 : thI (sN (aS A)) p with
  | none =>
    rw [h0] at kk
    simp only [e76, v76_0, v76_1, v76_2, v76_5, v76_8, v76_9, v76_11, kb, f0, f1, f3, f4, f5, f6, vrf_s, true_and, true_or, or_true, and_self, not_false_eq_true, pu_s, pu_n, z2_e0, z2_n0, z2_t, z2_f, k111 hC hW, h0, Option.isSome_none, reduceIte]
    exact k108 (w := 0) hC hW (by decide) (by decide) (fun h2 q2 hC2 => by simp only [pu_s, v76_14]; exact kk h2 q2 hC2)
  | some t =>
    rw [h0] at kk
    have hn := hW.1.1
    obtain ⟨rfl, ht⟩ := thI_s (by omega) h0
    simp only [e76, v76_0, v76_1, v76_2, v76_5, v76_15, v76_16, kb, f0, f1, f3, f4, f5, f6, vrf_s, true_and, true_or, or_true, and_self, not_false_eq_true, pu_s, pu_n, z2_e0, z2_n0, z2_t, z2_f, k111 hC hW, h0, Option.isSome_some, i10, reduceIte]
    refine k120 hC hW (fun h2 ρ β q2 hC2 hP2 hG2 => ?_)
    obtain ⟨w1, w2, w3, w4, w5, w6, w7, w8, w9, w10, w11, w12, w13, w14, w15, w16, w17, w18, w19, w20⟩ := hP2.2.2.1
    have c1 : (nI t).toNatClampNeg = t := nIc (by omega)
    have i1 : inb (nI t) 8 = True := nIb (by omega) (by omega)
    have ee := hG2.1.1 t (by omega)
    simp only [pu_s, v76_19, v76_22, v76_23, v76_24, w1, w2, w9, w15, vrf_s, c1, i1, ee, true_and, true_or, and_self]
    exact kk h2 q2 hC2
theorem whB_no {bu : Nat → Option Nat} {t : Nat} : ∀ n : Nat, (∀ u, u < n → bu u ≠ some t) → whB bu n t = none
  | 0, _ => rfl
  | n + 1, hc => by
    unfold whB
    rw [if_neg (hc n (by omega))]
    exact whB_no n (fun u hu => hc u (by omega))
theorem whB_one {bu : Nat → Option Nat} {t w : Nat} (hw : bu w = some t) : ∀ n : Nat, w < n → (∀ u, u < n → bu u = some t → u = w) → whB bu n t = some w
  | 0, h, _ => absurd h (Nat.not_lt_zero w)
  | n + 1, h, hc => by
    unfold whB
    by_cases e : bu n = some t
    · rw [if_pos e, hc n (by omega) e]
    · rw [if_neg e]
      have : w ≠ n := fun z => e (by rw [← z]; exact hw)
      exact whB_one hw n (by omega) (fun u hu => hc u (by omega))
theorem k191_l (hM : MSh m h) (hP : MP m (aS A) h) (hW : WF A) (hD : DP m (mN A) (sM (aS A)) h) {t : Nat} (ht : t < sN (aS A)) : ∀ (j x : Nat), x + j = sM (aS A) → (∀ y, y < x → mB (mN A) y ≠ some t) → V 191 25 [.ref m, .int (nI t), .int (nI x)] [] h K = K (some (.int (oI (whB (mB (mN A)) (sM (aS A)) t)))) h := by
  have hm := hW.1.2.1
  have hn := hW.1.1
  intro j
  induction j with
  | zero =>
    intro x hx hz
    have e : x = sM (aS A) := by omega
    subst e
    have e8 : (nI (sM (aS A)) ≤ nI (sM (aS A))) = True := eq_true (nI_le (Nat.le_refl _) (by omega))
    rw [whB_no _ hz]
    simp only [v191_25, v191_26, v191_27, v191_30, v191_51, v191_52, hM.k0, hP.2.1, e8, reduceIte, true_and]
    rfl
  | succ j ih =>
    intro x hx hz
    have e8 : (nI (sM (aS A)) ≤ nI x) = False := eq_false (nI_ge (by omega) (by omega))
    have c1 : (nI x).toNatClampNeg = x := nIc (by omega)
    have i1 : inb (nI x) 24 = True := nIb (by omega) (by omega)
    have ee := (hD.2.2 x (by omega)).2.1
    have e : (oI (mB (mN A) x) = nI t) = (mB (mN A) x = some t) := by
      cases hb : mB (mN A) x with
      | none =>
        show ((-1 : Int32) = nI t) = _
        have := nm1 (n := t) (by omega)
        apply propext
        exact ⟨fun z => absurd (this ▸ z.symm : False) id, fun z => by cases z⟩
      | some y =>
        have := moB_lt (p0_ok (aS A)) _ _ _ hb
        show (nI y = nI t) = _
        rw [neqN (by omega) (by omega)]
        exact propext ⟨fun z => by rw [z], fun z => Option.some.inj z⟩
    by_cases g : mB (mN A) x = some t
    · rw [whB_one g _ (by omega) (fun y hy hb => by
        rcases Nat.lt_trichotomy y x with z | z | z
        · exact absurd hb (hz y z)
        · exact z
        · exact (mo_once (s := aS A) (π := p0) rfl z hy g hb).elim)]
      simp only [v191_25, v191_26, v191_27, v191_30, v191_33, v191_34, v191_37, v191_38, v191_39, v191_40, v191_43, v191_44, hM.k0, hP.2.1, hM.f37, hM.k56, hM.n56, vrf_s, e8, c1, i1, ee, e, g, (show (oI (some t) = nI t) = True from eq_true rfl), not_true_eq_false, reduceIte, true_and, true_or, and_self]
      rfl
    · simp only [v191_25, v191_26, v191_27, v191_30, v191_33, v191_34, v191_37, v191_38, v191_39, v191_40, v191_45, hM.k0, hP.2.1, hM.f37, hM.k56, hM.n56, vrf_s, e8, c1, i1, ee, e, g, not_false_eq_true, reduceIte, true_and, true_or, and_self, nI_1]
      rw [v191_48]
      refine ih (x + 1) (by omega) (fun y hy => ?_)
      by_cases e2 : y = x
      · subst e2; exact g
      · exact hz y (by omega)
theorem k191 (hR : MR m u A h) (hW : WF A) (p : Int32) (kk : ∀ (h2 : Hp) (u2 : LU), MG m h h2 → MR m u2 (oWho A p).1 h2 → K (some (.int (oWho A p).2)) h2) : AM 191 [.ref m, .int p] h K := by
  obtain ⟨r0, hM, hpp, hP, hQ, hS, hT, hF, hL⟩ := id hR
  unfold oWho at kk
  replace kk := fun h2 => kk h2 u
  cases h0 : thI (sN (aS A)) p with
  | none =>
    rw [h0] at kk
    simp only [v191_0, v191_1, v191_2, v191_5, v191_8, v191_9, v191_11, v191_14, v191_15, v191_16, v191_17, v191_20, v191_23, v191_24, v191_25, v191_26, v191_27, v191_30, v191_33, v191_34, v191_37, v191_38, v191_39, v191_40, v191_43, v191_44, v191_45, v191_51, v191_52, e191, hM.f0, hM.f1, hM.f2, hM.f3, hM.f4, hM.f5, hM.f6, hM.f8, hM.f10, hM.f12, hM.f13, hM.f25, hM.f27, hM.f28, hM.f36, hM.f37, hM.f38, hM.f40, hM.k0, hM.k1, hM.k2, hM.k3, hM.k4, hM.k13, hM.k14, hM.k15, hM.k16, hM.k17, hM.k26, hM.k51, hM.k52, hM.k53, hM.k54, hM.k55, hM.k56, hM.k57, hM.k58, hM.n1, hM.n2, hM.n3, hM.n4, hM.n13, hM.n14, hM.n15, hM.n16, hM.n17, hM.n26, hM.n51, hM.n52, hM.n53, hM.n54, hM.n55, hM.n56, hM.n57, hM.n58, vrf_s, true_or, or_true, true_and, and_true, and_self, not_false_eq_true, pu_s, pu_n, z2_e0, z2_n0, z2_t, z2_f, k136 hR hW, h0, Option.isSome_none, reduceIte]
    exact k134 (w := 0) hR hW (by decide) (by decide) (fun h2 q2 hR2 => by simp only [pu_s, v191_14]; exact kk h2 (MG.of q2 (fun a j z => by omega)) hR2)
  | some t =>
    rw [h0] at kk
    have hn := hW.1.1
    obtain ⟨rfl, ht⟩ := thI_s (by omega) h0
    simp only [e191, v191_0, v191_1, v191_2, v191_5, v191_15, v191_16, v191_17, v191_20, hM.f0, hM.f1, hM.f2, hM.f3, hM.f4, hM.f5, hM.f6, hM.f8, hM.f10, hM.f12, hM.f13, hM.f25, hM.f27, hM.f28, hM.f36, hM.f37, hM.f38, hM.f40, hM.k0, hM.k1, hM.k2, hM.k3, hM.k4, hM.k13, hM.k14, hM.k15, hM.k16, hM.k17, hM.k26, hM.k51, hM.k52, hM.k53, hM.k54, hM.k55, hM.k56, hM.k57, hM.k58, hM.n1, hM.n2, hM.n3, hM.n4, hM.n13, hM.n14, hM.n15, hM.n16, hM.n17, hM.n26, hM.n51, hM.n52, hM.n53, hM.n54, hM.n55, hM.n56, hM.n57, hM.n58, vrf_s, true_or, or_true, true_and, and_true, and_self, not_false_eq_true, pu_s, pu_n, z2_e0, z2_n0, z2_t, z2_f, k136 hR hW, h0, Option.isSome_some, i10, reduceIte, hP.2.1]
    refine c186 hM hP hW.1 (p0_ok _) hpp (Nat.le_refl _) (fun h2 q2 hD => ?_)
    simp only [pu_n, v191_23, v191_24]
    show V 191 25 [.ref m, .int (nI t), .int (nI 0)] [] h2 K
    rw [k191_l (hM.dw q2) (hP.dw hW.1 q2) hW hD ht (sM (aS A)) 0 (Nat.zero_add _) (fun y hy => absurd hy (Nat.not_lt_zero y))]
    exact kk h2 (MG.of q2 (fun a j z => by unfold DW at z; omega)) (hR.sc hW q2 (fun a j z => z.z))
theorem k77 (hC : CL b A h) (hW : WF A) (kk : ∀ h2, Fr (CW b) h h2 → CL b A h2 → K (some (.int (nI (mK (mN A))))) h2) : AM 77 [.ref b] h K := by
  obtain ⟨⟨cn, kb, f0, f1, f3, f4, f5, f6⟩, hST, hKP, hTR, hTA, ⟨s1, s2, s3⟩, hRF⟩ := id hC
  simp only [e77, v77_0, v77_1, kb, true_and]
  refine k120 hC hW (fun h2 ρ β q2 hC2 hP2 hG2 => ?_)
  have w1 : gK h2 (b + 110) = 1 := hP2.2.2.1.1
  simp only [pu_s, v77_4, v77_7, w1, hG2.1.2.2.2.2.1, true_and]
  exact kk h2 q2 hC2
theorem k192 (hR : MR m u A h) (hW : WF A) (kk : ∀ (h2 : Hp) (u2 : LU), MG m h h2 → MR m u2 A h2 → K (some (.int (nI (mK (mN A))))) h2) : AM 192 [.ref m] h K := by
  obtain ⟨r0, hM, hpp, hP, hQ, hS, hT, hF, hL⟩ := id hR
  exact c192 hM hP hW.1 hpp (fun h2 q2 hD => kk h2 u (MG.of q2 (fun a j z => by unfold DW at z; omega)) (hR.sc hW q2 (fun a j z => z.z)))
theorem k78 (hC : CL b A h) (hW : WF A) (kk : ∀ h2, Fr (CW b) h h2 → CL b A h2 → K (some (.int (nI (msk (fun t => !mS (mN A) t) (sN (aS A)))))) h2) : AM 78 [.ref b] h K := by
  obtain ⟨⟨cn, kb, f0, f1, f3, f4, f5, f6⟩, hST, hKP, hTR, hTA, ⟨s1, s2, s3⟩, hRF⟩ := id hC
  simp only [e78, v78_0, v78_1, kb, true_and]
  refine k120 hC hW (fun h2 ρ β q2 hC2 hP2 hG2 => ?_)
  have w1 : gK h2 (b + 110) = 1 := hP2.2.2.1.1
  simp only [pu_s, v78_4, v78_7, w1, hG2.2.1, true_and]
  exact kk h2 q2 hC2
theorem k193 (hR : MR m u A h) (hW : WF A) (kk : ∀ (h2 : Hp) (u2 : LU), MG m h h2 → MR m u2 A h2 → K (some (.int (nI (msk (fun t => !mS (mN A) t) (sN (aS A)))))) h2) : AM 193 [.ref m] h K := by
  obtain ⟨r0, hM, hpp, hP, hQ, hS, hT, hF, hL⟩ := id hR
  have hn8 := hW.1.1
  simp only [e193, v193_0, v193_1, v193_2, v193_5, hM.k0, hP.2.1, true_and]
  refine c186 hM hP hW.1 (p0_ok _) hpp (Nat.le_refl _) (fun h2 q2 hD => ?_)
  have hM2 := hM.dw q2
  have hP2 := hP.dw hW.1 q2
  have l : ∀ (j t : Nat), t + j = sN (aS A) → V 193 12 [.ref m, .int (nI (msk (fun t => !mS (mN A) t) t)), .int (nI t)] [] h2 K = K (some (.int (nI (msk (fun t => !mS (mN A) t) (sN (aS A)))))) h2 := by
    intro j
    induction j with
    | zero =>
      intro t hi
      have e : t = sN (aS A) := by omega
      subst e
      have e8 : (nI (sN (aS A)) ≤ nI (sN (aS A))) = True := eq_true (nI_le (Nat.le_refl _) (by omega))
      simp only [v193_12, v193_13, v193_14, v193_17, v193_45, v193_46, hM2.k0, hP2.1, e8, reduceIte, true_and]
    | succ j ih =>
      intro t hi
      have lt : (nI (sN (aS A)) ≤ nI t) = False := eq_false (nI_ge (by omega) (by omega))
      have c1 : (nI t).toNatClampNeg = t := nIc (by omega)
      have i1 : inb (nI t) 8 = True := nIb (by omega) (by omega)
      have sh := nShl t (by omega)
      have ee := hD.1 t (by omega)
      change gI h2 (m + 53) t = z2 (mS (mN A) t) at ee
      refine Eq.trans (b := V 193 42 [.ref m, .int (nI (msk (fun t => !mS (mN A) t) (t + 1))), .int (nI (t + 1))] [] h2 K) ?_ ((v193_42 _ _ _ _).trans (ih (t + 1) (by omega)))
      have r : msk (fun t => !mS (mN A) t) (t + 1) = if (!mS (mN A) t) = true then msk (fun t => !mS (mN A) t) t ||| 2 ^ t else msk (fun t => !mS (mN A) t) t := rfl
      have z0 : ∀ x : Int32, x ||| 0 = x := fun x => by
        apply Int32.toBitVec_inj.1
        show x.toBitVec ||| 0#32 = x.toBitVec
        simp
      rw [r]
      cases hs : mS (mN A) t with
      | true => rw [hs] at ee; simp only [v193_12, v193_13, v193_14, v193_17, v193_20, v193_21, v193_22, v193_25, v193_26, v193_27, v193_30, v193_31, v193_37, v193_38, v193_39, hM2.k0, hP2.1, hM2.f27, hM2.k53, hM2.n53, vrf_s, lt, c1, i1, ee, z2_t, i10, z0, reduceIte, true_and, true_or, and_self, nI_1, Bool.not_true, Bool.false_eq_true]
      | false => rw [hs] at ee; simp only [v193_12, v193_13, v193_14, v193_17, v193_20, v193_21, v193_22, v193_25, v193_26, v193_27, v193_34, v193_35, v193_36, v193_37, v193_38, v193_39, hM2.k0, hP2.1, hM2.f27, hM2.k53, hM2.n53, vrf_s, lt, c1, i1, ee, z2_f, sh, nOr, reduceIte, true_and, true_or, and_self, nI_1, Bool.not_false]
  simp only [pu_n, v193_8, v193_9, v193_10, v193_11]
  show V 193 12 [.ref m, .int (nI (msk (fun t => !mS (mN A) t) 0)), .int (nI 0)] [] h2 K
  rw [l (sN (aS A)) 0 (Nat.zero_add _)]
  exact kk h2 u (MG.of q2 (fun a j z => by unfold DW at z; omega)) (hR.sc hW q2 (fun a j z => z.z))
theorem k79 (hC : CL b A h) (hW : WF A) (kk : ∀ h2, Fr (CW b) h h2 → CL b A h2 → K (some (.int (nI (hoN (aS A) p0)))) h2) : AM 79 [.ref b] h K := by
  obtain ⟨⟨cn, kb, f0, f1, f3, f4, f5, f6⟩, hST, hKP, hTR, hTA, ⟨s1, s2, s3⟩, hRF⟩ := id hC
  simp only [e79, v79_0, v79_1, kb, true_and]
  refine k120 hC hW (fun h2 ρ β q2 hC2 hP2 hG2 => ?_)
  have w1 : gK h2 (b + 110) = 1 := hP2.2.2.1.1
  simp only [pu_s, v79_4, v79_7, w1, hG2.2.2.1, true_and]
  exact kk h2 q2 hC2
theorem k194 (hR : MR m u A h) (hW : WF A) (kk : ∀ (h2 : Hp) (u2 : LU), MG m h h2 → MR m u2 A h2 → K (some (.int (nI (hoN (aS A) p0)))) h2) : AM 194 [.ref m] h K := by
  obtain ⟨r0, hM, hpp, hP, hQ, hS, hT, hF, hL⟩ := id hR
  exact c194 hM hP hW.1 hpp (fun h2 q2 hD => kk h2 u (MG.of q2 (fun a j z => by unfold DW at z; omega)) (hR.sc hW q2 (fun a j z => z.z)))
theorem k80 (hC : CL b A h) (hW : WF A) (kk : ∀ h2, Fr (CW b) h h2 → CL b A h2 → K (some (.int (gaI (aS A) p0))) h2) : AM 80 [.ref b] h K := by
  obtain ⟨⟨cn, kb, f0, f1, f3, f4, f5, f6⟩, ⟨ρ, β, hQ, hV, hO, -⟩, -, ⟨ρ', β', hT⟩, -⟩ := id hC
  have k5 : gK h (b + 73) = 5 := hT.1
  simp only [e80, v80_0, v80_1, v80_4, v80_5, v80_8, kb, f3, f0, vrf_s, k5, true_and]
  refine c44 cn (by omega) hT (by omega) hQ hV hO (fun h2 q2 hP2 hG2 => ?_)
  simp only [pu_s, v80_11]
  exact kk h2 (q2.mo TWw) (hC.ut hW q2 TWc ⟨ρ', β', hP2.1⟩)
theorem k195 (hR : MR m u A h) (hW : WF A) (kk : ∀ (h2 : Hp) (u2 : LU), MG m h h2 → MR m u2 A h2 → K (some (.int (gaI (aS A) p0))) h2) : AM 195 [.ref m] h K := by
  obtain ⟨r0, hM, hpp, hP, hQ, hS, hT, hF, hL⟩ := id hR
  exact c195 hM hP hW.1 hpp (fun h2 q2 hD => kk h2 u (MG.of q2 (fun a j z => by unfold DW at z; omega)) (hR.sc hW q2 (fun a j z => z.z)))
theorem k96 (hC : CL b A h) (hW : WF A) (kk : ∀ h2, Fr (CW b) h h2 → CL b A h2 → K (some (.int (nI (bhN (tiA A) 6)))) h2) : AM 96 [.ref b] h K := by
  obtain ⟨⟨cn, kb, f0, f1, f3, f4, f5, f6⟩, hST, hKP, hTR, hTA, ⟨s1, s2, s3⟩, hRF⟩ := id hC
  simp only [e96, v96_0, v96_1, kb, true_and]
  refine k120 hC hW (fun h2 ρ β q2 hC2 hP2 hG2 => ?_)
  obtain ⟨w1, w2, w3, w4, w5, w6, w7, w8, w9, w10, w11, w12, w13, w14, w15, w16, w17, w18, w19, w20⟩ := hP2.2.2.1
  have ee : ∀ x, x < 7 → gI h2 (b + 110 + 4) x = nI (tiA A x) := hG2.1.2.2.2.1
  have l : ∀ (j x : Nat), x + j = 6 → V 96 12 [.ref b, .ref (b + 110 + 4), .int (nI (bhN (tiA A) x)), .int (nI (x + 1))] [] h2 K = K (some (.int (nI (bhN (tiA A) 6)))) h2 := by
    intro j
    induction j with
    | zero =>
      intro x hx
      have e : x = 6 := by omega
      subst e
      have e8 : ((7 : Int32) ≤ nI (6 + 1)) = True := eq_true (by decide)
      simp only [v96_12, v96_13, v96_15, v96_35, v96_36, e8, reduceIte]
    | succ j ih =>
      intro x hx
      have e8 : ((7 : Int32) ≤ nI (x + 1)) = False := eq_false (nI_ge (b := 7) (by omega) (by decide))
      have hb := bhN_le (tiA A) x
      have c1 : (nI (x + 1)).toNatClampNeg = x + 1 := nIc (by omega)
      have i1 : inb (nI (x + 1)) 7 = True := nIb (by omega) (by omega)
      have c2 : (nI (bhN (tiA A) x)).toNatClampNeg = bhN (tiA A) x := nIc (by omega)
      have i2 : inb (nI (bhN (tiA A) x)) 7 = True := nIb (by omega) (by omega)
      have t1 := tiA_le hW (x + 1)
      have t2 := tiA_le hW (bhN (tiA A) x)
      have le : (nI (tiA A (x + 1)) ≤ nI (tiA A (bhN (tiA A) x))) = (tiA A (x + 1) ≤ tiA A (bhN (tiA A) x)) := nleN (by omega) (by omega)
      refine Eq.trans (b := V 96 32 [.ref b, .ref (b + 110 + 4), .int (nI (bhN (tiA A) (x + 1))), .int (nI (x + 1 + 1))] [] h2 K) ?_ ((v96_32 _ _ _ _).trans (ih (x + 1) (by omega)))
      have r : bhN (tiA A) (x + 1) = if tiA A (bhN (tiA A) x) < tiA A (x + 1) then x + 1 else bhN (tiA A) x := rfl
      rw [r]
      by_cases g : tiA A (x + 1) ≤ tiA A (bhN (tiA A) x)
      · rw [if_neg (by omega)]
        simp only [v96_12, v96_13, v96_15, v96_18, v96_19, v96_20, v96_21, v96_22, v96_23, v96_24, v96_29, e8, reduceIte, w12, w18, c1, i1, c2, i2, ee (x + 1) (by omega), ee (bhN (tiA A) x) (by omega), le, g, true_and, true_or, and_self, nI_1]
      · rw [if_pos (by omega)]
        simp only [v96_12, v96_13, v96_15, v96_18, v96_19, v96_20, v96_21, v96_22, v96_23, v96_24, v96_27, v96_28, v96_29, e8, reduceIte, w12, w18, c1, i1, c2, i2, ee (x + 1) (by omega), ee (bhN (tiA A) x) (by omega), le, g, true_and, true_or, and_self, nI_1]
  simp only [pu_s, v96_4, v96_7, v96_8, v96_9, v96_10, v96_11, w1, w5, vrf_s, true_and]
  show V 96 12 [.ref b, .ref (b + 110 + 4), .int (nI (bhN (tiA A) 0)), .int (nI (0 + 1))] [] h2 K
  rw [l 6 0 rfl]
  exact kk h2 q2 hC2
def HW (m a j : Nat) : Prop := DW m a j ∨ a = m + 58
theorem HWz {a j : Nat} (z : HW m a j) : MZ m a j := by unfold HW DW at z; unfold MZ; omega
theorem k218 (hR : MR m u A h) (hW : WF A) (kk : ∀ (h2 : Hp) (u2 : LU), MG m h h2 → MR m u2 A h2 → K (some (.int (nI (bhN (tiA A) 6)))) h2) : AM 218 [.ref m] h K := by
  obtain ⟨r0, hM, hpp, hP, hQ, hS, hT, hF, hL⟩ := id hR
  have hn8 := hW.1.1
  have hm24 := hW.1.2.1
  simp only [e218, v218_0, v218_1, v218_2, v218_5, hM.k0, hP.2.1, true_and]
  refine c186 hM hP hW.1 (p0_ok _) hpp (Nat.le_refl _) (fun h2 q2 hD => ?_)
  have hM2 := hM.dw q2
  have hP2 := hP.dw hW.1 q2
  have keep : ∀ h3, Fr (fun a _ => a = m + 58) h2 h3 → MSh m h3 ∧ MP m (aS A) h3 := fun h3 w => ⟨hM2.fr w (fun a j z => ⟨by omega, fun v => by omega⟩), hP2.fr hW.1 w (fun a j z => ⟨fun v => by omega, fun v => by omega, fun v => by omega⟩)⟩
  -- the best hour
  have l3 : ∀ (h3 : Hp), Fr (fun a _ => a = m + 58) h2 h3 → (∀ x, x < 7 → gI h3 (m + 58) x = nI (tiA A x)) → ∀ (j x : Nat), x + j = 6 → V 218 71 [.ref m, .int (nI (bhN (tiA A) x)), .int (nI (x + 1))] [] h3 K = K (some (.int (nI (bhN (tiA A) 6)))) h3 := by
    intro h3 w ee j
    obtain ⟨hM3, -⟩ := keep h3 w
    induction j with
    | zero =>
      intro x hx
      have e : x = 6 := by omega
      subst e
      have e8 : ((6 : Int32) < nI (6 + 1)) = True := eq_true (by decide)
      simp only [v218_71, v218_72, v218_74, v218_104, v218_105, e8, reduceIte]
    | succ j ih =>
      intro x hx
      have e8 : ((6 : Int32) < nI (x + 1)) = False := eq_false (nI_nlt (a := 6) (by omega) (by decide))
      have hb := bhN_le (tiA A) x
      have c1 : (nI (x + 1)).toNatClampNeg = x + 1 := nIc (by omega)
      have i1 : inb (nI (x + 1)) 7 = True := nIb (by omega) (by omega)
      have c2 : (nI (bhN (tiA A) x)).toNatClampNeg = bhN (tiA A) x := nIc (by omega)
      have i2 : inb (nI (bhN (tiA A) x)) 7 = True := nIb (by omega) (by omega)
      have t1 := tiA_le hW (x + 1)
      have t2 := tiA_le hW (bhN (tiA A) x)
      have le : (nI (tiA A (x + 1)) ≤ nI (tiA A (bhN (tiA A) x))) = (tiA A (x + 1) ≤ tiA A (bhN (tiA A) x)) := nleN (by omega) (by omega)
      refine Eq.trans (b := V 218 101 [.ref m, .int (nI (bhN (tiA A) (x + 1))), .int (nI (x + 1 + 1))] [] h3 K) ?_ ((v218_101 _ _ _ _).trans (ih (x + 1) (by omega)))
      have r : bhN (tiA A) (x + 1) = if tiA A (bhN (tiA A) x) < tiA A (x + 1) then x + 1 else bhN (tiA A) x := rfl
      rw [r]
      by_cases g : tiA A (x + 1) ≤ tiA A (bhN (tiA A) x)
      · rw [if_neg (by omega)]
        simp only [v218_71, v218_72, v218_74, v218_77, v218_78, v218_81, v218_82, v218_83, v218_84, v218_87, v218_88, v218_89, v218_96, v218_97, v218_98, e8, reduceIte, hM3.k0, hM3.f40, hM3.k58, hM3.n58, vrf_s, c1, i1, c2, i2, ee (x + 1) (by omega), ee (bhN (tiA A) x) (by omega), le, g, true_and, true_or, and_self, nI_1]
      · rw [if_pos (by omega)]
        simp only [v218_71, v218_72, v218_74, v218_77, v218_78, v218_81, v218_82, v218_83, v218_84, v218_87, v218_88, v218_89, v218_92, v218_93, v218_97, v218_98, e8, reduceIte, hM3.k0, hM3.f40, hM3.k58, hM3.n58, vrf_s, c1, i1, c2, i2, ee (x + 1) (by omega), ee (bhN (tiA A) x) (by omega), le, g, true_and, true_or, and_self, nI_1]
  -- the sums
  have l2 : ∀ (j x : Nat) (h3 : Hp), x + j = sM (aS A) → Fr (fun a _ => a = m + 58) h2 h3 → (∀ y, y < 7 → gI h3 (m + 58) y = nI (tiB (fun u => sB (aS A) u 0) (mD (mN A)) x y)) → V 218 33 [.ref m, .int 0, .int (nI x)] [] h3 K := by
    intro j
    induction j with
    | zero =>
      intro x h3 hx w ee
      have e : x = sM (aS A) := by omega
      subst e
      obtain ⟨hM3, hP3⟩ := keep h3 w
      have e8 : (nI (sM (aS A)) ≤ nI (sM (aS A))) = True := eq_true (nI_le (Nat.le_refl _) (by omega))
      simp only [v218_33, v218_34, v218_35, v218_38, v218_69, v218_70, hM3.k0, hP3.2.1, e8, reduceIte, true_and]
      show V 218 71 [.ref m, .int (nI (bhN (tiA A) 0)), .int (nI (0 + 1))] [] h3 K
      rw [l3 h3 w ee 6 0 rfl]
      have q3 : Fr (HW m) h h3 := (q2.mo (fun a j z => Or.inl z)).tr (w.mo (fun a j z => Or.inr z))
      exact kk h3 u (MG.of q3 (fun a j z => by unfold HW DW at z; omega)) (hR.sc hW q3 (fun a j z => HWz z))
    | succ j ih =>
      intro x h3 hx w ee
      obtain ⟨hM3, hP3⟩ := keep h3 w
      have e8 : (nI (sM (aS A)) ≤ nI x) = False := eq_false (nI_ge (by omega) (by omega))
      obtain ⟨u1, u2, u3⟩ := hM3.by (show x < 24 by omega)
      have g0 := (hW.1.2.2.2.1 x (by omega)).1
      have f0 := hP3.b (b := x) (by omega) (k := 0) (by omega)
      have c1 : (nI x).toNatClampNeg = x := nIc (by omega)
      have i1 : inb (nI x) 24 = True := nIb (by omega) (by omega)
      have c2 : (nI (sB (aS A) x 0)).toNatClampNeg = sB (aS A) x 0 := nIc (by omega)
      have i2 : inb (nI (sB (aS A) x 0)) 7 = True := nIb (by omega) (by omega)
      have pd : gI h3 (m + 57) x = nI (mD (mN A) x) := (w.i (fun z => by omega)).trans (hD.2.2 x (by omega)).2.2.1
      simp only [v218_33, v218_34, v218_35, v218_38, v218_41, v218_42, v218_45, v218_46, v218_49, v218_50, v218_51, v218_52, v218_53, v218_54, v218_55, v218_56, v218_59, v218_60, v218_61, v218_62, v218_63, e8, reduceIte, hM3.k0, hP3.2.1, hM3.f40, hM3.k58, hM3.n58, hM3.f12, hM3.k26, hM3.n26, hM3.f38, hM3.k57, hM3.n57, vrf_s, u1, u2, u3, ib7_0, ib7_1, ib7_2, ib7_3, ib7_4, ib7_5, ib7_6, ib3_0, ib3_1, ib3_2, ib4_0, ib4_1, ib4_2, ib4_3, tc0, tc1, tc2, tc3, tc4, tc5, tc6, f0, c1, i1, c2, i2, ee (sB (aS A) x 0) (by omega), pd, nI_add, true_and, true_or, or_true, and_self, nI_1]
      rw [v218_66]
      refine ih (x + 1) _ (by omega) (w.pI rfl) (fun y hy => ?_)
      show _ = nI (tiB (fun u => sB (aS A) u 0) (mD (mN A)) x y + if sB (aS A) x 0 = y then mD (mN A) x else 0)
      by_cases e : sB (aS A) x 0 = y
      · subst e
        rw [gI_at, if_pos rfl]
      · rw [gI_ne (fun z => e z.2.symm), if_neg e, Nat.add_zero]
        exact ee y hy
  -- all are nothing first
  have l1 : ∀ (j x : Nat) (h3 : Hp) (v2 : Value), x + j = 7 → Fr (fun a _ => a = m + 58) h2 h3 → (∀ y, y < x → gI h3 (m + 58) y = 0) → V 218 10 [.ref m, .int (nI x), v2] [] h3 K := by
    intro j
    induction j with
    | zero =>
      intro x h3 v2 hx w ee
      have e : x = 7 := by omega
      subst e
      have e8 : ((6 : Int32) < nI 7) = True := eq_true (by decide)
      simp only [v218_10, v218_11, v218_13, v218_29, v218_30, v218_31, v218_32, e8, reduceIte]
      exact l2 (sM (aS A)) 0 h3 (Nat.zero_add _) w (fun y hy => ee y hy)
    | succ j ih =>
      intro x h3 v2 hx w ee
      obtain ⟨hM3, hP3⟩ := keep h3 w
      have e8 : ((6 : Int32) < nI x) = False := eq_false (nI_nlt (a := 6) (by omega) (by decide))
      have c1 : (nI x).toNatClampNeg = x := nIc (by omega)
      have i1 : inb (nI x) 7 = True := nIb (by omega) (by omega)
      simp only [v218_10, v218_11, v218_13, v218_16, v218_17, v218_20, v218_21, v218_22, v218_23, e8, reduceIte, hM3.k0, hM3.f40, hM3.k58, hM3.n58, vrf_s, c1, i1, true_and, and_self, nI_1]
      rw [v218_26]
      refine ih (x + 1) _ _ (by omega) (w.pI rfl) (fun y hy => ?_)
      by_cases e : y = x
      · subst e; exact gI_at _ _ _ _
      · rw [gI_ne (fun z => e z.2)]; exact ee y (by omega)
  simp only [pu_n, v218_8, v218_9]
  exact l1 7 0 h2 _ rfl Fr.rf (fun y hy => absurd hy (Nat.not_lt_zero y))
theorem k81 (hC : CL b A h) (hW : WF A) (p : Int32) (kk : ∀ h2, Fr (CW b) h h2 → CL b (oBMk A p).1 h2 → K (some (.int (oBMk A p).2)) h2) : AM 81 [.ref b, .int p] h K := by
  obtain ⟨⟨cn, kb, f0, f1, f3, f4, f5, f6⟩, ⟨ρ, β, hQ, hV, hO, -⟩, -, ⟨ρ', β', hT⟩, -⟩ := id hC
  have k5 : gK h (b + 73) = 5 := hT.1
  unfold oBMk at kk
  cases h0 : thI (sN (aS A)) p with
  | none =>
    rw [h0] at kk
    simp only [e81, v81_0, v81_1, v81_2, v81_5, v81_8, v81_9, v81_11, kb, f0, f1, f3, f4, f5, f6, vrf_s, true_and, true_or, or_true, and_self, not_false_eq_true, pu_s, pu_n, z2_e0, z2_n0, z2_t, z2_f, k111 hC hW, h0, Option.isSome_none, reduceIte]
    exact k108 (w := 0) hC hW (by decide) (by decide) (fun h2 q2 hC2 => by simp only [pu_s, v81_14]; exact kk h2 q2 hC2)
  | some t =>
    rw [h0] at kk
    have hn := hW.1.1
    obtain ⟨rfl, ht⟩ := thI_s (by omega) h0
    simp only [e81, v81_0, v81_1, v81_2, v81_5, v81_15, v81_16, v81_19, v81_20, v81_23, kb, f0, f1, f3, f4, f5, f6, vrf_s, true_and, true_or, or_true, and_self, not_false_eq_true, pu_s, pu_n, z2_e0, z2_n0, z2_t, z2_f, k111 hC hW, h0, Option.isSome_some, i10, reduceIte, k5]
    refine c42 cn (by omega) hT (by omega) hQ hV hO (fun h2 q2 hP2 _ _ _ => ?_)
    have hC2 := hC.ut hW q2 TWc ⟨ρ', β', hP2.1⟩
    obtain ⟨⟨cn2, kb2, -, -, g3, -⟩, -⟩ := id hC2
    have k52 := hP2.1.1
    simp only [pu_n, v81_26, v81_27, v81_30, v81_31, kb2, g3, vrf_s, k52, true_and]
    refine c50 hP2 hO (p0_ok _) p0_cl rfl ht (fun h3 q3 hP3 => ?_)
    simp only [pu_s, v81_34]
    exact kk h3 ((q2.tr q3).mo TWw) (hC.ut hW (q2.tr q3) TWc ⟨ρ', β', hP3.1⟩)
theorem k83 (hC : CL b A h) (hW : WF A) (p : Int32) (kk : ∀ h2, Fr (CW b) h h2 → CL b (oBFr A p).1 h2 → K (some (.int (oBFr A p).2)) h2) : AM 83 [.ref b, .int p] h K := by
  obtain ⟨⟨cn, kb, f0, f1, f3, f4, f5, f6⟩, ⟨ρ, β, hQ, hV, hO, -⟩, -, ⟨ρ', β', hT⟩, -⟩ := id hC
  have k5 : gK h (b + 73) = 5 := hT.1
  unfold oBFr at kk
  cases h0 : thI (sN (aS A)) p with
  | none =>
    rw [h0] at kk
    simp only [e83, v83_0, v83_1, v83_2, v83_5, v83_8, v83_9, v83_11, kb, f0, f1, f3, f4, f5, f6, vrf_s, true_and, true_or, or_true, and_self, not_false_eq_true, pu_s, pu_n, z2_e0, z2_n0, z2_t, z2_f, k111 hC hW, h0, Option.isSome_none, reduceIte]
    exact k108 (w := 0) hC hW (by decide) (by decide) (fun h2 q2 hC2 => by simp only [pu_s, v83_14]; exact kk h2 q2 hC2)
  | some t =>
    rw [h0] at kk
    have hn := hW.1.1
    obtain ⟨rfl, ht⟩ := thI_s (by omega) h0
    simp only [e83, v83_0, v83_1, v83_2, v83_5, v83_15, v83_16, v83_19, v83_20, v83_23, kb, f0, f1, f3, f4, f5, f6, vrf_s, true_and, true_or, or_true, and_self, not_false_eq_true, pu_s, pu_n, z2_e0, z2_n0, z2_t, z2_f, k111 hC hW, h0, Option.isSome_some, i10, reduceIte, k5]
    refine c42 cn (by omega) hT (by omega) hQ hV hO (fun h2 q2 hP2 _ _ _ => ?_)
    have hC2 := hC.ut hW q2 TWc ⟨ρ', β', hP2.1⟩
    obtain ⟨⟨cn2, kb2, -, -, g3, -⟩, -⟩ := id hC2
    have k52 := hP2.1.1
    simp only [pu_n, v83_26, v83_27, v83_30, v83_31, kb2, g3, vrf_s, k52, true_and]
    refine c49 cn2 hP2 hO (p0_ok _) p0_cl ht (fun h3 q3 hP3 => ?_)
    simp only [pu_s, v83_34]
    exact kk h3 ((q2.tr q3).mo TWw) (hC.ut hW (q2.tr q3) TWc ⟨ρ', β', hP3.1⟩)
theorem k82 (hC : CL b A h) (hW : WF A) (kk : ∀ h2, Fr (CW b) h h2 → CL b A h2 → K (some (.int (bsA A 1))) h2) : AM 82 [.ref b] h K := by
  obtain ⟨⟨cn, kb, f0, f1, f3, f4, f5, f6⟩, ⟨ρ, β, hQ, hV, hO, -⟩, -, ⟨ρ', β', hT⟩, -⟩ := id hC
  have k5 : gK h (b + 73) = 5 := hT.1
  simp only [e82, v82_0, v82_1, v82_4, v82_5, v82_8, kb, f0, f1, f3, f4, f5, f6, vrf_s, true_and, true_or, or_true, and_self, not_false_eq_true, pu_s, pu_n, z2_e0, z2_n0, z2_t, z2_f, k5]
  refine c42 cn (by omega) hT (by omega) hQ hV hO (fun h2 q2 hP2 _ _ _ => ?_)
  have hC2 := hC.ut hW q2 TWc ⟨ρ', β', hP2.1⟩
  obtain ⟨⟨cn2, kb2, -, -, g3, -⟩, -⟩ := id hC2
  have k52 := hP2.1.1
  simp only [pu_n, v82_11, v82_12, v82_15, v82_16, kb2, g3, vrf_s, k52, true_and]
  refine c48 (k := 1) cn2 hP2 hO (p0_ok _) p0_cl (by decide) (fun h3 q3 hP3 => ?_)
  simp only [pu_s, v82_19]
  exact kk h3 ((q2.tr q3).mo TWw) (hC.ut hW (q2.tr q3) TWc ⟨ρ', β', hP3.1⟩)
theorem k85 (hC : CL b A h) (hW : WF A) (kk : ∀ h2, Fr (CW b) h h2 → CL b A h2 → K (some (.int (bsA A 0))) h2) : AM 85 [.ref b] h K := by
  obtain ⟨⟨cn, kb, f0, f1, f3, f4, f5, f6⟩, ⟨ρ, β, hQ, hV, hO, -⟩, -, ⟨ρ', β', hT⟩, -⟩ := id hC
  have k5 : gK h (b + 73) = 5 := hT.1
  simp only [e85, v85_0, v85_1, v85_4, v85_5, v85_8, kb, f0, f1, f3, f4, f5, f6, vrf_s, true_and, true_or, or_true, and_self, not_false_eq_true, pu_s, pu_n, z2_e0, z2_n0, z2_t, z2_f, k5]
  refine c42 cn (by omega) hT (by omega) hQ hV hO (fun h2 q2 hP2 _ _ _ => ?_)
  have hC2 := hC.ut hW q2 TWc ⟨ρ', β', hP2.1⟩
  obtain ⟨⟨cn2, kb2, -, -, g3, -⟩, -⟩ := id hC2
  have k52 := hP2.1.1
  simp only [pu_n, v85_11, v85_12, v85_15, v85_16, kb2, g3, vrf_s, k52, true_and]
  refine c48 (k := 0) cn2 hP2 hO (p0_ok _) p0_cl (by decide) (fun h3 q3 hP3 => ?_)
  simp only [pu_s, v85_19]
  exact kk h3 ((q2.tr q3).mo TWw) (hC.ut hW (q2.tr q3) TWc ⟨ρ', β', hP3.1⟩)
theorem k197 (hR : MR m u A h) (hW : WF A) (p : Int32) (kk : ∀ (h2 : Hp) (u2 : LU), MG m h h2 → MR m u2 (oBMk A p).1 h2 → K (some (.int (oBMk A p).2)) h2) : AM 197 [.ref m, .int p] h K := by
  obtain ⟨r0, hM, hpp, hP, hQ, hS, hT, hF, hL⟩ := id hR
  unfold oBMk at kk
  replace kk := fun h2 => kk h2 u
  cases h0 : thI (sN (aS A)) p with
  | none =>
    rw [h0] at kk
    simp only [v197_0, v197_1, v197_2, v197_5, v197_8, v197_9, v197_10, v197_11, v197_13, v197_16, v197_19, v197_20, v197_22, v197_25, e197, hM.f0, hM.f1, hM.f2, hM.f3, hM.f4, hM.f5, hM.f6, hM.f8, hM.f10, hM.f12, hM.f13, hM.f25, hM.f27, hM.f28, hM.f36, hM.f37, hM.f38, hM.f40, hM.k0, hM.k1, hM.k2, hM.k3, hM.k4, hM.k13, hM.k14, hM.k15, hM.k16, hM.k17, hM.k26, hM.k51, hM.k52, hM.k53, hM.k54, hM.k55, hM.k56, hM.k57, hM.k58, hM.n1, hM.n2, hM.n3, hM.n4, hM.n13, hM.n14, hM.n15, hM.n16, hM.n17, hM.n26, hM.n51, hM.n52, hM.n53, hM.n54, hM.n55, hM.n56, hM.n57, hM.n58, vrf_s, true_or, or_true, true_and, and_true, and_self, not_false_eq_true, pu_s, pu_n, z2_e0, z2_n0, z2_t, z2_f, k136 hR hW, h0, Option.isSome_none, reduceIte]
    exact k134 (w := 0) hR hW (by decide) (by decide) (fun h2 q2 hR2 => by simp only [pu_s, v197_25]; exact kk h2 (MG.of q2 (fun a j z => by omega)) hR2)
  | some t =>
    rw [h0] at kk
    have hn := hW.1.1
    obtain ⟨rfl, ht⟩ := thI_s (by omega) h0
    simp only [e197, v197_0, v197_1, v197_2, v197_5, v197_8, v197_9, v197_10, v197_11, v197_13, hM.f0, hM.f1, hM.f2, hM.f3, hM.f4, hM.f5, hM.f6, hM.f8, hM.f10, hM.f12, hM.f13, hM.f25, hM.f27, hM.f28, hM.f36, hM.f37, hM.f38, hM.f40, hM.k0, hM.k1, hM.k2, hM.k3, hM.k4, hM.k13, hM.k14, hM.k15, hM.k16, hM.k17, hM.k26, hM.k51, hM.k52, hM.k53, hM.k54, hM.k55, hM.k56, hM.k57, hM.k58, hM.n1, hM.n2, hM.n3, hM.n4, hM.n13, hM.n14, hM.n15, hM.n16, hM.n17, hM.n26, hM.n51, hM.n52, hM.n53, hM.n54, hM.n55, hM.n56, hM.n57, hM.n58, vrf_s, true_or, or_true, true_and, and_true, and_self, not_false_eq_true, pu_s, pu_n, z2_e0, z2_n0, z2_t, z2_f, k136 hR hW, h0, Option.isSome_some, i10, reduceIte]
    refine c196 (k := 5) (most := 99) hM hP hW.1 (p0_ok _) hpp ht (Or.inl ⟨rfl, rfl⟩) (fun h2 q2 hP2 => ?_)
    simp only [pu_s, v197_16, v197_25]
    exact kk h2 (MG.of q2 (fun a j z => by unfold XW DW at z; omega)) (hR.upd (s := aS A) (q := aQ A) hW q2 (fun a j z => by unfold XW DW at z; unfold MY; omega) (hpp.xw q2) hP2 (hQ.fr q2 (fun j _ _ z => by unfold XW DW at z; omega)))
theorem k198 (hR : MR m u A h) (hW : WF A) (p : Int32) (kk : ∀ (h2 : Hp) (u2 : LU), MG m h h2 → MR m u2 (oBFr A p).1 h2 → K (some (.int (oBFr A p).2)) h2) : AM 198 [.ref m, .int p] h K := by
  obtain ⟨r0, hM, hpp, hP, hQ, hS, hT, hF, hL⟩ := id hR
  unfold oBFr at kk
  replace kk := fun h2 => kk h2 u
  cases h0 : thI (sN (aS A)) p with
  | none =>
    rw [h0] at kk
    simp only [v198_0, v198_1, v198_2, v198_5, v198_8, v198_9, v198_10, v198_12, v198_14, v198_17, v198_20, v198_21, v198_23, v198_26, e198, hM.f0, hM.f1, hM.f2, hM.f3, hM.f4, hM.f5, hM.f6, hM.f8, hM.f10, hM.f12, hM.f13, hM.f25, hM.f27, hM.f28, hM.f36, hM.f37, hM.f38, hM.f40, hM.k0, hM.k1, hM.k2, hM.k3, hM.k4, hM.k13, hM.k14, hM.k15, hM.k16, hM.k17, hM.k26, hM.k51, hM.k52, hM.k53, hM.k54, hM.k55, hM.k56, hM.k57, hM.k58, hM.n1, hM.n2, hM.n3, hM.n4, hM.n13, hM.n14, hM.n15, hM.n16, hM.n17, hM.n26, hM.n51, hM.n52, hM.n53, hM.n54, hM.n55, hM.n56, hM.n57, hM.n58, vrf_s, true_or, or_true, true_and, and_true, and_self, not_false_eq_true, pu_s, pu_n, z2_e0, z2_n0, z2_t, z2_f, k136 hR hW, h0, Option.isSome_none, reduceIte]
    exact k134 (w := 0) hR hW (by decide) (by decide) (fun h2 q2 hR2 => by simp only [pu_s, v198_26]; exact kk h2 (MG.of q2 (fun a j z => by omega)) hR2)
  | some t =>
    rw [h0] at kk
    have hn := hW.1.1
    obtain ⟨rfl, ht⟩ := thI_s (by omega) h0
    simp only [e198, v198_0, v198_1, v198_2, v198_5, v198_8, v198_9, v198_10, v198_12, v198_14, hM.f0, hM.f1, hM.f2, hM.f3, hM.f4, hM.f5, hM.f6, hM.f8, hM.f10, hM.f12, hM.f13, hM.f25, hM.f27, hM.f28, hM.f36, hM.f37, hM.f38, hM.f40, hM.k0, hM.k1, hM.k2, hM.k3, hM.k4, hM.k13, hM.k14, hM.k15, hM.k16, hM.k17, hM.k26, hM.k51, hM.k52, hM.k53, hM.k54, hM.k55, hM.k56, hM.k57, hM.k58, hM.n1, hM.n2, hM.n3, hM.n4, hM.n13, hM.n14, hM.n15, hM.n16, hM.n17, hM.n26, hM.n51, hM.n52, hM.n53, hM.n54, hM.n55, hM.n56, hM.n57, hM.n58, vrf_s, true_or, or_true, true_and, and_true, and_self, not_false_eq_true, pu_s, pu_n, z2_e0, z2_n0, z2_t, z2_f, k136 hR hW, h0, Option.isSome_some, i10, reduceIte]
    refine c196 (k := 6) (most := 7) hM hP hW.1 (p0_ok _) hpp ht (Or.inr ⟨rfl, rfl⟩) (fun h2 q2 hP2 => ?_)
    simp only [pu_s, v198_17, v198_26]
    exact kk h2 (MG.of q2 (fun a j z => by unfold XW DW at z; omega)) (hR.upd (s := aS A) (q := aQ A) hW q2 (fun a j z => by unfold XW DW at z; unfold MY; omega) (hpp.xw q2) hP2 (hQ.fr q2 (fun j _ _ z => by unfold XW DW at z; omega)))
theorem MR.zw (hR : MR m u A h) (hW : WF A) (q2 : Fr (ZW m) h h1) (hP2 : MP m (aS A) h1) : MR m u A h1 := by
  obtain ⟨r0, hM, hpp, hP, hQ, hS, hT, hF, hL⟩ := id hR
  exact hR.upd (s := aS A) (q := aQ A) hW q2 (fun a j z => by unfold ZW DW at z; unfold MY; omega) (hpp.zw q2) hP2 (hQ.fr q2 (fun j _ _ z => by unfold ZW DW at z; omega))
theorem k200 (hR : MR m u A h) (hW : WF A) (kk : ∀ (h2 : Hp) (u2 : LU), MG m h h2 → MR m u2 A h2 → K (some (.int (bsA A 1))) h2) : AM 200 [.ref m] h K := by
  obtain ⟨r0, hM, hpp, hP, hQ, hS, hT, hF, hL⟩ := id hR
  simp only [e200, v200_0, v200_1, v200_2, hM.k0, true_and]
  refine c199 (k := 1) hM hP hW.1 (p0_ok _) hpp (by decide) (fun h2 q2 hP2 => ?_)
  simp only [pu_s, v200_5]
  exact kk h2 u (MG.of q2 (fun a j z => by unfold ZW DW at z; omega)) (hR.zw hW q2 hP2)
theorem k201 (hR : MR m u A h) (hW : WF A) (kk : ∀ (h2 : Hp) (u2 : LU), MG m h h2 → MR m u2 A h2 → K (some (.int (bsA A 0))) h2) : AM 201 [.ref m] h K := by
  obtain ⟨r0, hM, hpp, hP, hQ, hS, hT, hF, hL⟩ := id hR
  simp only [e201, v201_0, v201_1, v201_2, hM.k0, true_and]
  refine c199 (k := 0) hM hP hW.1 (p0_ok _) hpp (by decide) (fun h2 q2 hP2 => ?_)
  simp only [pu_s, v201_5]
  exact kk h2 u (MG.of q2 (fun a j z => by unfold ZW DW at z; omega)) (hR.zw hW q2 hP2)
end
