/-! AHEAD and SWAP, on both sides -/
def mvP (s : SG) (t k : Nat) : SG := (sN s, sM s, fun u => if u = k then sT s t else if k < u ∧ u ≤ t then sT s (u - 1) else sT s u, sB s, sA s)
theorem mvP_t (s : SG) (t : Nat) : mvP s t t = s := by
  have e : (fun u => if u = t then sT s t else if t < u ∧ u ≤ t then sT s (u - 1) else sT s u) = sT s := by
    funext u
    by_cases h : u = t
    · rw [if_pos h, h]
    · rw [if_neg h, if_neg (by omega)]
  show (sN s, sM s, _, sB s, sA s) = s
  rw [e]
  rfl
theorem mvP_0 (s : SG) (t : Nat) : mvP s t 0 = mvS s t := by
  have e : (fun u => if u = 0 then sT s t else if 0 < u ∧ u ≤ t then sT s (u - 1) else sT s u) = (fun u => if u = 0 then sT s t else if u ≤ t then sT s (u - 1) else sT s u) := by
    funext u
    by_cases h : u = 0
    · rw [if_pos h, if_pos h]
    · rw [if_neg h, if_neg h]
      by_cases h2 : u ≤ t
      · rw [if_pos ⟨by omega, h2⟩, if_pos h2]
      · rw [if_neg (fun z => h2 z.2), if_neg h2]
  show (sN s, sM s, _, sB s, sA s) = _
  rw [e]
  rfl
theorem mvP_s (s : SG) (t k : Nat) (hk : k + 1 ≤ t) : swS (mvP s t (k + 1)) (k + 1) k = mvP s t k := by
  have eT : ∀ j u, sT (mvP s t j) u = if u = j then sT s t else if j < u ∧ u ≤ t then sT s (u - 1) else sT s u := fun _ _ => rfl
  have e : (fun u => if u = k + 1 then sT (mvP s t (k + 1)) k else if u = k then sT (mvP s t (k + 1)) (k + 1) else sT (mvP s t (k + 1)) u) = (fun u => if u = k then sT s t else if k < u ∧ u ≤ t then sT s (u - 1) else sT s u) := by
    funext u
    rw [eT, eT, eT]
    by_cases h1 : u = k + 1
    · rw [if_pos h1, if_neg (by omega), if_neg (by omega), if_neg (by omega), if_pos (by omega), h1]
      rfl
    · rw [if_neg h1]
      by_cases h2 : u = k
      · rw [if_pos h2, if_pos rfl, if_pos h2]
      · rw [if_neg h2, if_neg h1, if_neg h2]
        by_cases h3 : k < u ∧ u ≤ t
        · rw [if_pos ⟨by omega, h3.2⟩, if_pos h3]
        · rw [if_neg (by omega), if_neg h3]
  show (sN s, sM s, _, sB s, sA s) = _
  rw [e]
  rfl
theorem swS_t (s : SG) (t : Nat) : swS s t t = s := by
  have e : (fun u => if u = t then sT s t else if u = t then sT s t else sT s u) = sT s := by
    funext u
    by_cases h : u = t
    · rw [if_pos h, h]
    · rw [if_neg h, if_neg h]
  show (sN s, sM s, _, sB s, sA s) = s
  rw [e]
  rfl
def oAhd (A : XA) (t : Int32) : XA × Int32 := match thI (sN (aS A)) t with
  | none => rfI A 0 (-1000002)
  | some t => (A, gaI (mvS (aS A) t) p0 - gaI (aS A) p0)
def swH (t v : Nat) (o : Option Nat) : Option Nat := match o with
  | none => none
  | some k => if k = 10 + t then some (10 + v) else if k = 10 + v then some (10 + t) else some k
def shW (t v : Nat) (sh : Nat → XH) (i : Nat) : Nat → XH := fun j => if j < i then (swH t v (sh j).1, (sh j).2) else sh j
theorem shW_0 (t v : Nat) (sh : Nat → XH) : shW t v sh 0 = sh := by
  funext j
  exact if_neg (Nat.not_lt_zero j)
theorem shW_s (t v : Nat) (sh : Nat → XH) (i : Nat) : up (shW t v sh i) i (swH t v (sh i).1, (sh i).2) = shW t v sh (i + 1) := by
  funext j
  by_cases e : j = i
  · subst e
    rw [up_at]
    exact (if_pos (Nat.lt_succ_self j)).symm
  · rw [up_ne e]
    unfold shW
    by_cases e2 : j < i
    · rw [if_pos e2, if_pos (by omega)]
    · rw [if_neg e2, if_neg (by omega)]
theorem swH_t (t : Nat) (o : Option Nat) : swH t t o = o := by
  unfold swH
  cases o with
  | none => rfl
  | some k =>
    dsimp only
    split
    · rename_i h; rw [h]
    · rfl
theorem shW_t (t : Nat) (sh : Nat → XH) (i : Nat) : shW t t sh i = sh := by
  funext j
  unfold shW
  split
  · rw [swH_t]
  · rfl
def oSwp (A : XA) (t v : Int32) : XA × Int32 := match thI (sN (aS A)) t with
  | none => rfI A 0 (-2)
  | some t => match thI (sN (aS A)) v with
    | none => rfI A 0 (-2)
    | some v => if t = v then (A, 0) else (wH (wS A (swS (aS A) t v)) (shW t v (aH A) 8), 1)
theorem oI_eq {o : Option Nat} {k : Nat} (hb : ∀ k, o = some k → k < 1000) (hk : k < 1000) : (oI o = nI k) = (o = some k) := by
  cases o with
  | none =>
    show ((-1 : Int32) = nI k) = _
    have := nm1 (n := k) (by omega)
    exact propext ⟨fun z => (this ▸ z.symm : False).elim, fun z => by cases z⟩
  | some y =>
    have := hb y rfl
    show (nI y = nI k) = _
    rw [neqN (by omega) (by omega)]
    exact propext ⟨fun z => by rw [z], fun z => Option.some.inj z⟩
section
variable {b m x : Nat} {u : LU} {A : XA} {s : SG} {h h1 : Hp} {K : Option Value → Hp → Prop}
/-- changeThings -/
theorem c214 (hM : MSh x h) (hP : MP x s h) (hO : SOk s) {t v : Nat} (ht : t < sN s) (hv : v < sN s) (kk : ∀ h2, Fr (fun a _ => x + 18 ≤ a ∧ a < x + 26) h h2 → MP x (swS s t v) h2 → K none h2) : AM 214 [.ref x, .int (nI t), .int (nI v)] h K := by
  have hn8 := hO.1
  obtain ⟨p1, p2, p3, p4, p5⟩ := id hP
  have hm := hO.2.1
  have c1 : (nI t).toNatClampNeg = t := nIc (by omega)
  have i1 : inb (nI t) 8 = True := nIb (by omega) (by omega)
  have c2 : (nI v).toNatClampNeg = v := nIc (by omega)
  have i2 : inb (nI v) 8 = True := nIb (by omega) (by omega)
  have l : ∀ (j k : Nat) (h1 : Hp) (v4 : Value), k + j = 7 → Fr (fun a _ => x + 18 ≤ a ∧ a < x + 26) h h1 → (∀ w, w < sN s → ∀ i, i < 7 → gI h1 (x + (18 + w)) i = nI (if i < k then sT (swS s t v) w i else sT s w i)) → V 214 2 [.ref x, .int (nI t), .int (nI v), .int (nI k), v4] [] h1 K := by
    intro j
    induction j with
    | zero =>
      intro k h1 v4 hk hf hz
      have e : k = 7 := by omega
      subst e
      have e8 : ((7 : Int32) ≤ nI 7) = True := eq_true (by decide)
      simp only [v214_2, v214_3, v214_5, v214_50, e8, reduceIte]
      refine kk h1 hf ⟨(hf.i (fun z => by omega)).trans p1, (hf.i (fun z => by omega)).trans p2, fun w hw i hi => ?_, fun c hc i hi => (hf.i (fun z => by have hc' : c < sM s := hc; omega)).trans (p4 c hc i hi), fun i hi => (hf.i (fun z => by omega)).trans (p5 i hi)⟩
      rw [hz w hw i hi, if_pos hi]
    | succ j ih =>
      intro k h1 v4 hk hf hz
      have e8 : ((7 : Int32) ≤ nI k) = False := eq_false (nI_ge (b := 7) (by omega) (by decide))
      have hM1 : MSh x h1 := hM.fr hf (fun a j z => ⟨by omega, fun y => by omega⟩)
      obtain ⟨t1, t2, t3⟩ := hM1.th (show t < 8 by omega)
      obtain ⟨u1, u2, u3⟩ := hM1.th (show v < 8 by omega)
      have c3 : (nI k).toNatClampNeg = k := nIc (by omega)
      have i3 : inb (nI k) 7 = True := nIb (by omega) (by omega)
      have et := hz t ht k (by omega)
      have ev := hz v hv k (by omega)
      rw [if_neg (Nat.lt_irrefl k)] at et ev
      simp only [v214_2, v214_3, v214_5, v214_8, v214_9, v214_12, v214_13, v214_14, v214_15, v214_16, v214_18, v214_19, v214_22, v214_23, v214_24, v214_25, v214_26, v214_29, v214_30, v214_31, v214_32, v214_33, v214_34, v214_35, v214_38, v214_39, v214_40, v214_41, v214_43, v214_44, e8, reduceIte, gI_pJ, gI_pR, gJ_pI, gJ_pR, gR_pI, gR_pJ, gK_pI, gK_pJ, gK_pR, gN_pI, gN_pJ, gN_pR, gX_pI, gX_pJ, gX_pR, gS_pI, gS_pJ, gS_pR, gK_cpI, gN_cpI, gK_cpJ, gN_cpJ, gR_cpI, gR_cpJ, gJ_cpI, gI_cpJ, hM1.k0, hM1.f10, hM1.k17, hM1.n17, vrf_s, t1, t2, t3, u1, u2, u3, c1, i1, c2, i2, c3, i3, et, ev, true_and, true_or, or_true, and_self, nI_1]
      rw [v214_47]
      refine ih (k + 1) _ _ (by omega) ((hf.pI ⟨by omega, by omega⟩).pI ⟨by omega, by omega⟩) (fun w hw i hi => ?_)
      have eS : ∀ w i, sT (swS s t v) w i = (if w = t then sT s v else if w = v then sT s t else sT s w) i := fun _ _ => rfl
      by_cases ei : i = k
      · subst ei
        rw [if_pos (Nat.lt_succ_self i), eS]
        by_cases e1 : w = v
        · subst e1
          rw [gI_at]
          by_cases e2 : w = t
          · rw [if_pos e2, e2]
          · rw [if_neg e2, if_pos rfl]
        · rw [gI_ne (by omega)]
          by_cases e2 : w = t
          · subst e2
            rw [gI_at, if_pos rfl]
          · rw [gI_ne (by omega), if_neg e2, if_neg e1, hz w hw i hi, if_neg (Nat.lt_irrefl i)]
      · rw [gI_ne (by omega), gI_ne (by omega), hz w hw i hi]
        by_cases e3 : i < k
        · rw [if_pos e3, if_pos (by omega)]
        · rw [if_neg e3, if_neg (by omega)]
  simp only [e214, v214_0, v214_1]
  exact l 7 0 h _ rfl Fr.rf (fun w hw i hi => by rw [if_neg (Nat.not_lt_zero i)]; exact p3 w hw i hi)
theorem SOk.mvk (hO : SOk s) {t : Nat} (ht : t < sN s) (k : Nat) (hk : k ≤ t) : SOk (mvP s t k) := by
  obtain ⟨o1, o2, o3, o4⟩ := hO
  refine ⟨o1, o2, fun u hu => ?_, o4⟩
  have hu' : u < sN s := hu
  have e : sT (mvP s t k) u = if u = k then sT s t else if k < u ∧ u ≤ t then sT s (u - 1) else sT s u := rfl
  rw [e]
  split
  · exact o3 t ht
  · split
    · exact o3 (u - 1) (by omega)
    · exact o3 u hu'
theorem k94 (hC : CL b A h) (hW : WF A) (t : Int32) (kk : ∀ h2, Fr (CW b) h h2 → CL b (oAhd A t).1 h2 → K (some (.int (oAhd A t).2)) h2) : AM 94 [.ref b, .int t] h K := by
  obtain ⟨⟨cn, kb, f0, f1, f3, f4, f5, f6⟩, ⟨ρ, β, hQ, hV, hO, -⟩, -, ⟨ρ', β', hT⟩, -⟩ := id hC
  have k5 : gK h (b + 73) = 5 := hT.1
  unfold oAhd at kk
  cases h0 : thI (sN (aS A)) t with
  | none =>
    rw [h0] at kk
    simp only [e94, v94_0, v94_1, v94_2, v94_5, v94_8, v94_9, v94_11, kb, f0, f1, f3, f4, f5, f6, vrf_s, true_and, true_or, or_true, and_self, not_false_eq_true, pu_s, pu_n, z2_e0, z2_n0, z2_t, z2_f, k111 hC hW, h0, Option.isSome_none, reduceIte]
    exact k109 (w := 0) hC hW (by decide) (by decide) (fun h2 q2 hC2 => by simp only [pu_s, v94_14, far2, far3, far4, far5]; exact kk h2 q2 hC2)
  | some t' =>
    rw [h0] at kk
    have hn := hW.1.1
    obtain ⟨rfl, ht⟩ := thI_s (by omega) h0
    simp only [e94, v94_0, v94_1, v94_2, v94_5, v94_15, v94_16, v94_19, v94_20, v94_23, kb, f0, f1, f3, f4, f5, f6, vrf_s, true_and, true_or, or_true, and_self, not_false_eq_true, pu_s, pu_n, z2_e0, z2_n0, z2_t, z2_f, k111 hC hW, h0, Option.isSome_some, i10, reduceIte, k5]
    refine c44 cn (by omega) hT (by omega) hQ hV hO (fun h2 q2 hP2 hG2 => ?_)
    have hC2 := hC.ut hW q2 TWc ⟨ρ', β', hP2.1⟩
    obtain ⟨⟨cn2, kb2, -, -, g3, -⟩, -⟩ := id hC2
    obtain ⟨⟨t1, t2, t3, t4, hQ2, t6, t7⟩, hV2, hS2, hT2, hG2'⟩ := id hP2
    have k3 : gK h2 (b + 74) = 3 := hQ2.1
    simp only [pu_s, v94_26, v94_27, v94_28, v94_31, v94_34, v94_35, v94_36, kb2, g3, vrf_s, t1, t2, k3, true_and]
    refine c23_0 hQ2 hV2 hO ht (fun h3 q3 hQ3 hV3 => ?_)
    have q3t : Fr (TW (b + 74) (b + 110)) h2 h3 := q3.mo (fun x j z => by unfold PT2 at z; unfold TW; omega)
    have hS3 : TS (b + 73) (b + 74) (b + 110) (fun i => ρ' (sgm t' 0 i)) β' h3 := ⟨q3.k.trans t1, (q3.r (fun z => by unfold PT2 at z; omega)).trans t2, (q3.r (fun z => by unfold PT2 at z; omega)).trans t3, t4.fr q3 (fun j _ _ z => by unfold PT2 at z; omega), hQ3, t6, t7⟩
    have kb3 : gK h3 b = 6 := q3.k.trans kb2
    have g33 : gR h3 b 3 = some (b + 73) := (q3.r (fun z => by unfold PT2 at z; omega)).trans g3
    have k53 := hS3.1
    have cn3 := cn2.fr q3 (fun a j z => by unfold PT2 at z; omega)
    simp only [pu_n, v94_39, v94_40, v94_43, kb3, g33, vrf_s, k53, true_and]
    refine c45 cn3 (by omega) hS3 hV3 (hO.mv ht) (fun h4 q4 hP4 hD4 => ?_)
    have q5 := (q2.tr q3t).tr q4
    simp only [pu_s, v94_46, v94_47, v94_48]
    exact kk h4 (q5.mo TWw) (hC.ut hW q5 TWc ⟨_, _, hP4.1⟩)
theorem k216_l (hO : SOk s) {t : Nat} (ht : t < sN s) (v0 v1 : Value) (kk : ∀ (h2 : Hp) (v3 : Value), Fr (fun a _ => x + 18 ≤ a ∧ a < x + 26) h h2 → MSh x h2 → MP x (mvS s t) h2 → V 216 44 [v0, v1, .ref x, v3] [] h2 K) :
    ∀ (k : Nat) (h1 : Hp), k ≤ t → Fr (fun a _ => x + 18 ≤ a ∧ a < x + 26) h h1 → MSh x h1 → MP x (mvP s t k) h1 → V 216 26 [v0, v1, .ref x, .int (nI k)] [] h1 K := by
  have hn8 := hO.1
  intro k
  induction k with
  | zero =>
    intro h1 hk hf hM1 hP1
    rw [mvP_0] at hP1
    have e0 : (nI 0 ≤ 0) = True := n00
    simp only [v216_26, v216_27, e0, reduceIte]
    exact kk h1 _ hf hM1 hP1
  | succ k ih =>
    intro h1 hk hf hM1 hP1
    have e0 : (nI (k + 1) ≤ 0) = False := by rw [n_le0 (by omega)]; exact eq_false (by omega)
    have sb : nI (k + 1) - 1 = nI k := nI_pred _
    simp only [v216_26, v216_27, v216_30, v216_31, v216_32, v216_33, v216_34, v216_35, e0, hM1.k0, sb, reduceIte, true_and]
    refine c214 (t := k + 1) (v := k) hM1 hP1 (hO.mvk ht (k + 1) hk) (show k + 1 < sN s by omega) (show k < sN s by omega) (fun h2 q2 hP2 => ?_)
    rw [mvP_s s t k hk] at hP2
    simp only [pu_n, v216_38, nDc]
    rw [v216_41]
    exact ih h2 (by omega) (hf.tr q2) (hM1.fr q2 (fun a j z => ⟨by omega, fun y => by omega⟩)) hP2
theorem k216 (hR : MR m u A h) (hW : WF A) (t : Int32) (kk : ∀ (h2 : Hp) (u2 : LU), MG m h h2 → MR m u2 (oAhd A t).1 h2 → K (some (.int (oAhd A t).2)) h2) : AM 216 [.ref m, .int t] h K := by
  obtain ⟨r0, hM, hpp, hP, hQ, hS, hT, hF, hL⟩ := id hR
  unfold oAhd at kk
  cases h0 : thI (sN (aS A)) t with
  | none =>
    rw [h0] at kk
    replace kk := fun h2 => kk h2 u
    simp only [e216, v216_0, v216_1, v216_2, v216_5, v216_8, v216_11, v216_12, v216_14, hM.f0, hM.f1, hM.f2, hM.f3, hM.f4, hM.f5, hM.f6, hM.f8, hM.f10, hM.f12, hM.f13, hM.f25, hM.f27, hM.f28, hM.f36, hM.f37, hM.f38, hM.f40, hM.k0, hM.k1, hM.k2, hM.k3, hM.k4, hM.k13, hM.k14, hM.k15, hM.k16, hM.k17, hM.k26, hM.k51, hM.k52, hM.k53, hM.k54, hM.k55, hM.k56, hM.k57, hM.k58, hM.n1, hM.n2, hM.n3, hM.n4, hM.n13, hM.n14, hM.n15, hM.n16, hM.n17, hM.n26, hM.n51, hM.n52, hM.n53, hM.n54, hM.n55, hM.n56, hM.n57, hM.n58, vrf_s, true_or, or_true, true_and, and_true, and_self, not_false_eq_true, pu_s, pu_n, z2_e0, z2_n0, z2_t, z2_f, k136 hR hW, h0, Option.isSome_none, reduceIte]
    exact k134 (w := 0) hR hW (by decide) (by decide) (fun h2 q2 hR2 => by simp only [pu_s, v216_17, v216_18, far2]; exact kk h2 (MG.of q2 (fun a j z => by omega)) hR2)
  | some t' =>
    rw [h0] at kk
    have hn := hW.1.1
    obtain ⟨rfl, ht⟩ := thI_s (by omega) h0
    simp only [e216, v216_0, v216_1, v216_2, v216_5, v216_19, v216_20, hM.f0, hM.f1, hM.f2, hM.f3, hM.f4, hM.f5, hM.f6, hM.f8, hM.f10, hM.f12, hM.f13, hM.f25, hM.f27, hM.f28, hM.f36, hM.f37, hM.f38, hM.f40, hM.k0, hM.k1, hM.k2, hM.k3, hM.k4, hM.k13, hM.k14, hM.k15, hM.k16, hM.k17, hM.k26, hM.k51, hM.k52, hM.k53, hM.k54, hM.k55, hM.k56, hM.k57, hM.k58, hM.n1, hM.n2, hM.n3, hM.n4, hM.n13, hM.n14, hM.n15, hM.n16, hM.n17, hM.n26, hM.n51, hM.n52, hM.n53, hM.n54, hM.n55, hM.n56, hM.n57, hM.n58, vrf_s, true_or, or_true, true_and, and_true, and_self, not_false_eq_true, pu_s, pu_n, z2_e0, z2_n0, z2_t, z2_f, k136 hR hW, h0, Option.isSome_some, i10, reduceIte]
    refine c231 hR hW (fun h2 u2 x a1 a2 a3 a4 hR2 hu hO2 hP2 hQ2 => ?_)
    simp only [pu_s, v216_23, v216_24, v216_25]
    refine k216_l hW.1 ht _ _ (fun h3 v3 q3 hM3 hP3 => ?_) t' h2 (Nat.le_refl _) Fr.rf hO2.2.2.1 (by rw [mvP_t]; exact hP2)
    have hb := hO2.1
    have pp3 : PP x p0 h3 := hO2.2.2.2.fr q3 (fun j _ _ z => by omega)
    have k7 := hM3.k0
    simp only [v216_44, v216_45, k7, true_and]
    refine c188 hM3 hP3 (hW.1.mv ht) (p0_ok _) pp3 (fun h4 q4 hD4 => ?_)
    have q5 : Fr (fun a j => MKW x a j) h2 h4 := (q3.mo (fun a j z => Or.inr z)).tr (q4.mo (fun a j z => Or.inl z))
    have hF : ∀ a j, MKW x a j → x ≤ a ∧ a < x + 59 := fun a j z => by unfold MKW DW at z; omega
    have hO4 : OB m x h4 := ⟨hb, by rw [q5.2.2.1]; exact hO2.2.1, hO2.2.2.1.kw q5, hO2.2.2.2.kw q5⟩
    have hR4 := hR2.ob hW hb q5 hF (hR2.2.2.2.2.2.2.2.2.tried hu q5 hF hO4)
    obtain ⟨r0, hM4, hpp4, hP4, -⟩ := id hR4
    simp only [pu_s, v216_48, v216_49, hM4.k0, true_and]
    refine c188 hM4 hP4 hW.1 (p0_ok _) hpp4 (fun h5 q6 hD5 => ?_)
    simp only [pu_s, v216_52, v216_53]
    exact kk h5 u2 ⟨(a1.tr (Ag.of q5 (fun a j z => by have := hF a j z; omega))).tr (Ag.of q6 DWm), by rw [q6.2.2.1, q5.2.2.1]; exact a2, by rw [q6.2.2.1, q5.2.2.1]; omega, by rw [q6.2.2.2.1, q5.2.2.2.1]; omega⟩ (hR4.sc hW q6 (fun a j z => z.z))
theorem k93_l (hW : WF A) (k6 : gK h b = 6) (r5 : gR h b 5 = some (b + 120)) {t v : Nat} (ht : t < 8) (hv : v < 8) (hne : t ≠ v) (kk : ∀ h2, Fr (fun x _ => b + 122 ≤ x ∧ x < b + 138) h h2 → SHC b (shW t v (aH A) 8) h2 → K (some (.int 1)) h2) :
    ∀ (j i : Nat) (h1 : Hp), i + j = 8 → Fr (fun x _ => b + 122 ≤ x ∧ x < b + 138) h h1 → SHC b (shW t v (aH A) i) h1 → V 93 41 [.ref b, .int (nI t), .int (nI v), .int (nI i)] [] h1 K := by
  intro j
  induction j with
  | zero =>
    intro i h1 hi hf hS1
    have e : i = 8 := by omega
    subst e
    have e8 : ((8 : Int32) ≤ nI 8) = True := eq_true (by decide)
    simp only [v93_41, v93_42, v93_44, v93_114, v93_115, e8, reduceIte]
    exact kk h1 hf hS1
  | succ j ih =>
    intro i h1 hi hf hS1
    have e8 : ((8 : Int32) ≤ nI i) = False := eq_false (nI_ge (b := 8) (by omega) (by decide))
    have y6 : gK h1 b = 6 := hf.k.trans k6
    have y5 : gR h1 b 5 = some (b + 120) := (hf.r (fun z => by omega)).trans r5
    obtain ⟨s1, s2, s3⟩ := id hS1
    obtain ⟨x1, x2, x3, x4, x5, x6, x7, x8⟩ := s3 i (by omega)
    have hsi : shW t v (aH A) i i = aH A i := if_neg (Nat.lt_irrefl i)
    rw [hsi] at x6 x7
    have c1 : (nI i).toNatClampNeg = i := nIc (by omega)
    have i1 : inb (nI i) 8 = True := nIb (by omega) (by omega)
    have hb := SHC.bd hW (show i < 8 by omega)
    have et : (10 : Int32) + nI t = nI (10 + t) := nI_add 10 t
    have ev : (10 : Int32) + nI v = nI (10 + v) := nI_add 10 v
    have o1 := oI_eq hb (show 10 + t < 1000 by omega)
    have o2 := oI_eq hb (show 10 + v < 1000 by omega)
    have put : ∀ (o : Option Nat) (h2 : Hp), swH t v (aH A i).1 = o → h2 = pI h1 (b + 122 + 2 * i) 0 (oI o) → Fr (fun x _ => b + 122 ≤ x ∧ x < b + 138) h h2 ∧ SHC b (shW t v (aH A) (i + 1)) h2 := fun o h2 ho hh => by
      subst hh
      have w : Fr (fun x _ => x = b + 122 + 2 * i ∨ x = b + 123 + 2 * i) h1 (pI h1 (b + 122 + 2 * i) 0 (oI o)) := Fr.rf.pI (Or.inl rfl)
      refine ⟨hf.pI ⟨by omega, by omega⟩, ?_⟩
      rw [← shW_s, ho]
      refine SHC.put hS1 (by omega) w x3 (gI_at _ _ _ _) ?_ (fun j hj => ?_)
      · rw [gI_ne (by omega)]; exact x7
      · have := x8 j hj
        rw [hsi] at this
        exact this
    by_cases g1 : (aH A i).1 = some (10 + t)
    · have hsw : swH t v (aH A i).1 = some (10 + v) := by rw [g1]; exact if_pos rfl
      obtain ⟨w1, w2⟩ := put _ _ hsw rfl
      simp only [v93_41, v93_42, v93_44, v93_47, v93_48, v93_51, v93_52, v93_53, v93_56, v93_58, v93_59, v93_60, v93_63, v93_64, v93_67, v93_68, v93_69, v93_71, v93_72, v93_73, v93_76, v93_108, e8, reduceIte, y6, y5, s1, s2, x1, x2, vrf_s, c1, i1, et, ev, x6, o1, g1, not_true_eq_false, (show (oI (some (10 + t)) = nI (10 + t)) = True from eq_true rfl), true_and, true_or, or_true, and_self, nI_1]
      rw [v93_111]
      exact ih (i + 1) _ (by omega) w1 w2
    · by_cases g2 : (aH A i).1 = some (10 + v)
      · have hsw : swH t v (aH A i).1 = some (10 + t) := by
          rw [g2]
          show (if 10 + v = 10 + t then _ else if 10 + v = 10 + v then _ else _) = _
          rw [if_neg (by omega), if_pos rfl]
        obtain ⟨w1, w2⟩ := put _ _ hsw rfl
        have n1 : (nI (10 + v) = nI (10 + t)) = False := by rw [neqN (by omega) (by omega)]; exact eq_false (by omega)
        simp only [v93_41, v93_42, v93_44, v93_47, v93_48, v93_51, v93_52, v93_53, v93_56, v93_58, v93_59, v93_60, v93_79, v93_80, v93_83, v93_84, v93_85, v93_88, v93_90, v93_91, v93_92, v93_95, v93_96, v93_99, v93_100, v93_101, v93_103, v93_104, v93_105, v93_108, e8, reduceIte, y6, y5, s1, s2, x1, x2, vrf_s, c1, i1, et, ev, x6, g2, (show oI (some (10 + v)) = nI (10 + v) from rfl), n1, not_true_eq_false, not_false_eq_true, true_and, true_or, or_true, and_self, nI_1]
        rw [v93_111]
        exact ih (i + 1) _ (by omega) w1 w2
      · have hsw : swH t v (aH A i).1 = (aH A i).1 := by
          unfold swH
          cases ho : (aH A i).1 with
          | none => rfl
          | some k =>
            rw [ho] at g1 g2
            dsimp only
            rw [if_neg (fun z => g1 (by rw [z])), if_neg (fun z => g2 (by rw [z]))]
        have w2 : SHC b (shW t v (aH A) (i + 1)) h1 := by
          rw [← shW_s, hsw]
          have : up (shW t v (aH A) i) i ((aH A i).1, (aH A i).2) = shW t v (aH A) i := by
            funext j
            by_cases e : j = i
            · subst e; rw [up_at, hsi]
            · rw [up_ne e]
          rw [this]
          exact hS1
        simp only [v93_41, v93_42, v93_44, v93_47, v93_48, v93_51, v93_52, v93_53, v93_56, v93_58, v93_59, v93_60, v93_79, v93_80, v93_83, v93_84, v93_85, v93_88, v93_90, v93_91, v93_92, v93_108, e8, reduceIte, y6, y5, s1, s2, x1, x2, vrf_s, c1, i1, et, ev, x6, o1, o2, g1, g2, not_false_eq_true, true_and, true_or, or_true, and_self, nI_1]
        rw [v93_111]
        exact ih (i + 1) h1 (by omega) hf w2
theorem k93 (hC : CL b A h) (hW : WF A) (t v : Int32) (kk : ∀ h2, Fr (CW b) h h2 → CL b (oSwp A t v).1 h2 → K (some (.int (oSwp A t v).2)) h2) : AM 93 [.ref b, .int t, .int v] h K := by
  obtain ⟨⟨cn, kb, f0, f1, f3, f4, f5, f6⟩, hST, hKP, hTR, hTA, ⟨s1, s2, s3⟩, hRF⟩ := id hC
  unfold oSwp at kk
  cases h0 : thI (sN (aS A)) t with
  | none =>
    rw [h0] at kk
    simp only [e93, v93_0, v93_1, v93_2, v93_5, v93_16, v93_17, v93_19, kb, f0, f1, f3, f4, f5, f6, vrf_s, true_and, true_or, or_true, and_self, not_false_eq_true, pu_s, pu_n, z2_e0, z2_n0, z2_t, z2_f, k111 hC hW, h0, Option.isSome_none, reduceIte]
    exact k108 (w := 0) hC hW (by decide) (by decide) (fun h2 q2 hC2 => by simp only [pu_s, v93_22]; exact kk h2 q2 hC2)
  | some t' =>
    rw [h0] at kk
    cases h1 : thI (sN (aS A)) v with
    | none =>
      rw [h1] at kk
      simp only [e93, v93_0, v93_1, v93_2, v93_5, v93_8, v93_9, v93_10, v93_13, v93_16, v93_17, v93_19, kb, f0, f1, f3, f4, f5, f6, vrf_s, true_and, true_or, or_true, and_self, not_false_eq_true, pu_s, pu_n, z2_e0, z2_n0, z2_t, z2_f, k111 hC hW, h0, h1, Option.isSome_some, i10, Option.isSome_none, reduceIte, not_true_eq_false]
      exact k108 (w := 0) hC hW (by decide) (by decide) (fun h2 q2 hC2 => by simp only [pu_s, v93_22]; exact kk h2 q2 hC2)
    | some v' =>
      rw [h1] at kk
      dsimp only at kk
      have hn := hW.1.1
      simp only [e93, v93_0, v93_1, v93_2, v93_5, v93_8, v93_9, v93_10, v93_13, v93_23, v93_24, v93_25, kb, f0, f1, f3, f4, f5, f6, vrf_s, true_and, true_or, or_true, and_self, not_false_eq_true, pu_s, pu_n, z2_e0, z2_n0, z2_t, z2_f, k111 hC hW, h0, h1, Option.isSome_some, i10, reduceIte]
      obtain ⟨rfl, ht⟩ := thI_s (by omega) h0
      obtain ⟨rfl, hv⟩ := thI_s (by omega) h1
      have e : (nI t' = nI v') = (t' = v') := neqN (by omega) (by omega)
      by_cases g : t' = v'
      · rw [if_pos g] at kk
        simp only [v93_28, v93_29, e, g, not_true_eq_false, reduceIte]
        exact kk h Fr.rf hC
      · rw [if_neg g] at kk
        obtain ⟨ρ, β, hQ, hV, hO, q5, q6, q7⟩ := id hST
        have k3 := hQ.1
        simp only [v93_30, v93_31, v93_34, v93_35, v93_36, e, g, not_false_eq_true, reduceIte, kb, f0, vrf_s, k3, true_and]
        refine c25 hQ hV hO ht hv g (fun h2 q2 hQ2 hV2 => ?_)
        have q2w : ∀ x j, PT2 (b + 1) x j → b + 1 ≤ x ∧ x < b + 37 ∧ ¬ (x = b + 1 ∧ 5 ≤ j) := fun x j z => by unfold PT2 at z; omega
        have hC2 := hC.ss hW q2 q2w hQ2 hV2 (hO.sw ht hv)
        obtain ⟨⟨cn2, kb2, -, -, -, -, g5, -⟩, -, -, -, -, hS2, -⟩ := id hC2
        have hW2 : WF (wS A (swS (aS A) t' v')) := ⟨hO.sw ht hv, hW.2⟩
        simp only [pu_n, v93_39, v93_40]
        refine k93_l (h := h2) hW kb2 g5 (by omega) (by omega) g (fun h3 q3 hS3 => ?_) 8 0 h2 rfl Fr.rf (by rw [shW_0]; exact hS2)
        exact kk h3 ((q2.mo (fun x j z => by unfold PT2 at z; unfold CW; omega)).tr (q3.mo (fun x j z => by unfold CW; omega))) (hC2.uh hW2 q3 (fun x j z => Or.inr z) hS3)
theorem k215_l (hM : MSh m h) (hW : WF A) {t v : Nat} (ht : t < 8) (hv : v < 8) (kk : ∀ h2, Fr (fun x _ => x = m + 14) h h2 → MHS m (shW t v (aH A) 8) h2 → V 215 93 [.ref m, .int (nI t), .int (nI v), .int (nI 8)] [] h2 K) :
    ∀ (j i : Nat) (h1 : Hp), i + j = 8 → Fr (fun x _ => x = m + 14) h h1 → MHS m (shW t v (aH A) i) h1 → V 215 31 [.ref m, .int (nI t), .int (nI v), .int (nI i)] [] h1 K := by
  have hn8 := hW.1.1
  intro j
  induction j with
  | zero =>
    intro i h1 hi hf hS1
    have e : i = 8 := by omega
    subst e
    have e8 : ((8 : Int32) ≤ nI 8) = True := eq_true (by decide)
    simp only [v215_31, v215_32, v215_34, e8, reduceIte]
    exact kk h1 hf hS1
  | succ j ih =>
    intro i h1 hi hf hS1
    have e8 : ((8 : Int32) ≤ nI i) = False := eq_false (nI_ge (b := 8) (by omega) (by decide))
    have hM1 : MSh m h1 := hM.fr hf (fun a j z => ⟨by omega, fun y => by omega⟩)
    obtain ⟨y1, y2, y3, y4⟩ := hS1 i (by omega)
    have hsi : shW t v (aH A) i i = aH A i := if_neg (Nat.lt_irrefl i)
    rw [hsi] at y1 y2 y3
    have c1 : (nI i).toNatClampNeg = i := nIc (by omega)
    have i1 : inb (nI i) 8 = True := nIb (by omega) (by omega)
    have same : swH t v (aH A i).1 = (aH A i).1 → MHS m (shW t v (aH A) (i + 1)) h1 := fun hsw => by
      rw [← shW_s, hsw]
      have : up (shW t v (aH A) i) i ((aH A i).1, (aH A i).2) = shW t v (aH A) i := by
        funext j
        by_cases e : j = i
        · subst e; rw [up_at, hsi]
        · rw [up_ne e]
      rw [this]
      exact hS1
    rcases shTri (hW.2.2.2.2 i (by omega)) with ⟨g1, g2, g3, g4⟩ | ⟨k, g1, g1', g2, g3, g4⟩ | ⟨k, g1, g1', g1'', g2, g3, g4⟩
    · rw [g2] at y1
      simp only [v215_31, v215_32, v215_34, v215_37, v215_38, v215_41, v215_42, v215_43, v215_44, v215_87, e8, reduceIte, hM1.k0, hM1.f0, hM1.k1, hM1.n1, vrf_s, c1, i1, y1, q00, q01, q02, q10, q11, q12, q20, q21, q22, not_false_eq_true, true_and, true_or, and_self, nI_1]
      rw [v215_90]
      exact ih (i + 1) h1 (by omega) hf (same (by rw [g1]; rfl))
    · rw [g2] at y1
      simp only [v215_31, v215_32, v215_34, v215_37, v215_38, v215_41, v215_42, v215_43, v215_44, v215_87, e8, reduceIte, hM1.k0, hM1.f0, hM1.k1, hM1.n1, vrf_s, c1, i1, y1, q00, q01, q02, q10, q11, q12, q20, q21, q22, not_false_eq_true, true_and, true_or, and_self, nI_1]
      rw [v215_90]
      refine ih (i + 1) h1 (by omega) hf (same ?_)
      rw [g1]
      show (if k = 10 + t then _ else if k = 10 + v then _ else _) = _
      rw [if_neg (by omega), if_neg (by omega)]
    · rw [g2] at y1
      have hsh := (y2 k g1).2 g1'
      have et : (nI (k - 10) = nI t) = (k = 10 + t) := by rw [neqN (by omega) (by omega)]; exact propext ⟨fun z => by omega, fun z => by omega⟩
      have ev : (nI (k - 10) = nI v) = (k = 10 + v) := by rw [neqN (by omega) (by omega)]; exact propext ⟨fun z => by omega, fun z => by omega⟩
      have put : ∀ (w : Nat) (h2 : Hp), w < 8 → swH t v (aH A i).1 = some (10 + w) → h2 = pI h1 (m + 14) i (nI w) → Fr (fun x _ => x = m + 14) h h2 ∧ MHS m (shW t v (aH A) (i + 1)) h2 := fun w h2 hw ho hh => by
        subst hh
        have wf : Fr (fun x j => ((x = m + 1 ∨ x = m + 2 ∨ x = m + 3 ∨ x = m + 14) ∧ j = i) ∨ x = m + (5 + i)) h1 (pI h1 (m + 14) i (nI w)) := Fr.rf.pI (Or.inl ⟨by omega, rfl⟩)
        refine ⟨hf.pI rfl, ?_⟩
        rw [← shW_s, ho]
        refine hS1.put wf (by omega) ?_ (fun k2 hk2 => ?_) ?_ (fun j hj => ?_)
        · rw [gI_ne (by omega), y1]
          show _ = nI (if 10 + w ≤ 4 then 1 else 2)
          rw [if_neg (by omega)]
        · cases hk2
          refine ⟨fun z => by omega, fun _ => ?_⟩
          rw [gI_at, show 10 + w - 10 = w by omega]
        · rw [gI_ne (by omega)]; exact y3
        · have := y4 j hj
          rw [hsi] at this
          exact this
      by_cases a1 : k = 10 + t
      · have hsw : swH t v (aH A i).1 = some (10 + v) := by rw [g1]; exact if_pos a1
        obtain ⟨w1, w2⟩ := put v _ hv hsw rfl
        rw [eq_true a1] at et
        simp only [v215_31, v215_32, v215_34, v215_37, v215_38, v215_41, v215_42, v215_43, v215_44, v215_47, v215_48, v215_51, v215_52, v215_53, v215_56, v215_57, v215_58, v215_59, v215_62, v215_63, v215_86, v215_87, e8, reduceIte, hM1.k0, hM1.f0, hM1.k1, hM1.n1, hM1.f5, hM1.k14, hM1.n14, vrf_s, c1, i1, y1, q00, q01, q02, q10, q11, q12, q20, q21, q22, hsh, et, not_true_eq_false, true_and, true_or, and_self, nI_1]
        rw [v215_90]
        exact ih (i + 1) _ (by omega) w1 w2
      · rw [eq_false a1] at et
        by_cases a2 : k = 10 + v
        · have hsw : swH t v (aH A i).1 = some (10 + t) := by
            rw [g1]
            show (if k = 10 + t then _ else if k = 10 + v then _ else _) = _
            rw [if_neg a1, if_pos a2]
          obtain ⟨w1, w2⟩ := put t _ ht hsw rfl
          rw [eq_true a2] at ev
          simp only [v215_31, v215_32, v215_34, v215_37, v215_38, v215_41, v215_42, v215_43, v215_44, v215_47, v215_48, v215_51, v215_52, v215_53, v215_56, v215_57, v215_58, v215_59, v215_66, v215_67, v215_70, v215_71, v215_72, v215_73, v215_76, v215_77, v215_86, v215_87, e8, reduceIte, hM1.k0, hM1.f0, hM1.k1, hM1.n1, hM1.f5, hM1.k14, hM1.n14, vrf_s, c1, i1, y1, q00, q01, q02, q10, q11, q12, q20, q21, q22, hsh, et, ev, not_true_eq_false, not_false_eq_true, true_and, true_or, and_self, nI_1]
          rw [v215_90]
          exact ih (i + 1) _ (by omega) w1 w2
        · have hsw : swH t v (aH A i).1 = some (10 + (k - 10)) := by
            rw [g1]
            show (if k = 10 + t then _ else if k = 10 + v then _ else _) = _
            rw [if_neg a1, if_neg a2, show 10 + (k - 10) = k by omega]
          obtain ⟨w1, w2⟩ := put (k - 10) _ (by omega) hsw rfl
          rw [eq_false a2] at ev
          simp only [v215_31, v215_32, v215_34, v215_37, v215_38, v215_41, v215_42, v215_43, v215_44, v215_47, v215_48, v215_51, v215_52, v215_53, v215_56, v215_57, v215_58, v215_59, v215_66, v215_67, v215_70, v215_71, v215_72, v215_73, v215_80, v215_81, v215_84, v215_85, v215_86, v215_87, e8, reduceIte, hM1.k0, hM1.f0, hM1.k1, hM1.n1, hM1.f5, hM1.k14, hM1.n14, vrf_s, c1, i1, y1, q00, q01, q02, q10, q11, q12, q20, q21, q22, hsh, et, ev, not_true_eq_false, not_false_eq_true, true_and, true_or, and_self, nI_1]
          rw [v215_90]
          exact ih (i + 1) _ (by omega) w1 w2
theorem k215 (hR : MR m u A h) (hW : WF A) (t v : Int32) (kk : ∀ (h2 : Hp) (u2 : LU), MG m h h2 → MR m u2 (oSwp A t v).1 h2 → K (some (.int (oSwp A t v).2)) h2) : AM 215 [.ref m, .int t, .int v] h K := by
  obtain ⟨r0, hM, hpp, hP, hQ, hS, hT, hF, hL⟩ := id hR
  unfold oSwp at kk
  replace kk := fun h2 => kk h2 u
  cases h0 : thI (sN (aS A)) t with
  | none =>
    rw [h0] at kk
    simp only [e215, v215_0, v215_1, v215_2, v215_5, v215_16, v215_17, v215_19, hM.f0, hM.f1, hM.f2, hM.f3, hM.f4, hM.f5, hM.f6, hM.f8, hM.f10, hM.f12, hM.f13, hM.f25, hM.f27, hM.f28, hM.f36, hM.f37, hM.f38, hM.f40, hM.k0, hM.k1, hM.k2, hM.k3, hM.k4, hM.k13, hM.k14, hM.k15, hM.k16, hM.k17, hM.k26, hM.k51, hM.k52, hM.k53, hM.k54, hM.k55, hM.k56, hM.k57, hM.k58, hM.n1, hM.n2, hM.n3, hM.n4, hM.n13, hM.n14, hM.n15, hM.n16, hM.n17, hM.n26, hM.n51, hM.n52, hM.n53, hM.n54, hM.n55, hM.n56, hM.n57, hM.n58, vrf_s, true_or, or_true, true_and, and_true, and_self, not_false_eq_true, pu_s, pu_n, z2_e0, z2_n0, z2_t, z2_f, k136 hR hW, h0, Option.isSome_none, reduceIte]
    exact k134 (w := 0) hR hW (by decide) (by decide) (fun h2 q2 hR2 => by simp only [pu_s, v215_22]; exact kk h2 (MG.of q2 (fun a j z => by omega)) hR2)
  | some t' =>
    rw [h0] at kk
    cases h1 : thI (sN (aS A)) v with
    | none =>
      rw [h1] at kk
      simp only [e215, v215_0, v215_1, v215_2, v215_5, v215_8, v215_9, v215_10, v215_13, v215_16, v215_17, v215_19, hM.f0, hM.f1, hM.f2, hM.f3, hM.f4, hM.f5, hM.f6, hM.f8, hM.f10, hM.f12, hM.f13, hM.f25, hM.f27, hM.f28, hM.f36, hM.f37, hM.f38, hM.f40, hM.k0, hM.k1, hM.k2, hM.k3, hM.k4, hM.k13, hM.k14, hM.k15, hM.k16, hM.k17, hM.k26, hM.k51, hM.k52, hM.k53, hM.k54, hM.k55, hM.k56, hM.k57, hM.k58, hM.n1, hM.n2, hM.n3, hM.n4, hM.n13, hM.n14, hM.n15, hM.n16, hM.n17, hM.n26, hM.n51, hM.n52, hM.n53, hM.n54, hM.n55, hM.n56, hM.n57, hM.n58, vrf_s, true_or, or_true, true_and, and_true, and_self, not_false_eq_true, pu_s, pu_n, z2_e0, z2_n0, z2_t, z2_f, k136 hR hW, h0, h1, Option.isSome_some, i10, Option.isSome_none, reduceIte, not_true_eq_false]
      exact k134 (w := 0) hR hW (by decide) (by decide) (fun h2 q2 hR2 => by simp only [pu_s, v215_22]; exact kk h2 (MG.of q2 (fun a j z => by omega)) hR2)
    | some v' =>
      rw [h1] at kk
      dsimp only at kk
      have hn := hW.1.1
      simp only [e215, v215_0, v215_1, v215_2, v215_5, v215_8, v215_9, v215_10, v215_13, v215_23, v215_24, v215_25, v215_26, hM.f0, hM.f1, hM.f2, hM.f3, hM.f4, hM.f5, hM.f6, hM.f8, hM.f10, hM.f12, hM.f13, hM.f25, hM.f27, hM.f28, hM.f36, hM.f37, hM.f38, hM.f40, hM.k0, hM.k1, hM.k2, hM.k3, hM.k4, hM.k13, hM.k14, hM.k15, hM.k16, hM.k17, hM.k26, hM.k51, hM.k52, hM.k53, hM.k54, hM.k55, hM.k56, hM.k57, hM.k58, hM.n1, hM.n2, hM.n3, hM.n4, hM.n13, hM.n14, hM.n15, hM.n16, hM.n17, hM.n26, hM.n51, hM.n52, hM.n53, hM.n54, hM.n55, hM.n56, hM.n57, hM.n58, vrf_s, true_or, or_true, true_and, and_true, and_self, not_false_eq_true, pu_s, pu_n, z2_e0, z2_n0, z2_t, z2_f, k136 hR hW, h0, h1, Option.isSome_some, i10, reduceIte]
      obtain ⟨rfl, ht⟩ := thI_s (by omega) h0
      obtain ⟨rfl, hv⟩ := thI_s (by omega) h1
      refine c214 hM hP hW.1 ht hv (fun h2 q2 hP2 => ?_)
      have hR2 := hR.ss hW q2 (fun a j z => Or.inr (Or.inl z)) hP2
      have hW2 : WF (wS A (swS (aS A) t' v')) := ⟨hW.1.sw ht hv, hW.2⟩
      obtain ⟨r02, hM2, -, -, -, hS2, -⟩ := id hR2
      simp only [pu_n, v215_29, v215_30]
      refine k215_l (h := h2) hM2 hW (by omega) (by omega) (fun h3 q3 hS3 => ?_) 8 0 h2 rfl Fr.rf (by rw [shW_0]; exact hS2)
      have hR3 := hR2.uh hW2 q3 (fun a j z => by omega) hS3
      have e : (nI t' = nI v') = (t' = v') := neqN (by omega) (by omega)
      have mg : MG m h h3 := MG.of (F := fun a j => m ≤ a) ((q2.mo (fun a j z => by omega)).tr (q3.mo (fun a j z => by omega))) (fun a j z => z)
      by_cases g : t' = v'
      · rw [if_pos g] at kk
        subst g
        rw [swS_t, shW_t] at hR3
        simp only [v215_93, v215_94, v215_95, v215_98, v215_99, v215_103, not_true_eq_false, reduceIte]
        exact kk h3 mg hR3
      · rw [if_neg g] at kk
        simp only [v215_93, v215_94, v215_95, v215_102, v215_103, e, g, not_false_eq_true, reduceIte]
        exact kk h3 mg hR3
end
