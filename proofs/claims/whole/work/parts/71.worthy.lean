/-! WORTHY: a thing left at home, on both sides -/
def pHe (t : Nat) : PR := (7, none, none, some t)
theorem pHe_ok {s : SG} {t : Nat} (ht : t < sN s) : POk s (pHe t) := ⟨Nat.le_refl _, fun q h => (by cases h), fun q h => (by cases h), fun q h => (by cases h; exact ht)⟩
def sk (t u : Nat) : Nat := if u < t then u else u + 1
theorem sk_ne (t u : Nat) : sk t u ≠ t := by unfold sk; split <;> omega
theorem sk_inj {t u v : Nat} (h : sk t u = sk t v) : u = v := by unfold sk at h; split at h <;> split at h <;> omega
theorem sT_rm (s : SG) (t u : Nat) : sT (rmS s t) u = sT s (sk t u) := by
  show (if u < t then sT s u else sT s (u + 1)) = _
  unfold sk
  split <;> rfl
theorem sk_lo {t u : Nat} (h : u < t) : sk t u = u := if_pos h
theorem sk_hi {t u : Nat} (h : ¬ u < t) : sk t u = u + 1 := if_neg h
section
variable {s : SG} {t hr : Nat} {sold sold' : Nat → Bool}
theorem rm_rmL (hs : ∀ u, sold' u = sold (sk t u)) : ∀ k : Nat, k ≤ t → rmN (rmS s t) sold' hr k = rmN s sold hr k
  | 0, _ => rfl
  | k + 1, hk => by
    unfold rmN
    rw [rm_rmL hs k (by omega), sT_rm, hs, sk_lo (by omega)]
    rfl
theorem rm_rmH (hs : ∀ u, sold' u = sold (sk t u)) (ht : sold t = true) : ∀ j : Nat, rmN (rmS s t) sold' hr (t + j) = rmN s sold hr (t + j + 1)
  | 0 => by
    rw [Nat.add_zero, rm_rmL hs t (Nat.le_refl _)]
    show _ = rmN s sold hr t + if _ then _ else _
    rw [if_neg (by rw [ht]; simp)]
    rfl
  | j + 1 => by
    show rmN (rmS s t) sold' hr (t + j) + (if (!sold' (t + j) && decide (sT (rmS s t) (t + j) 6 ≤ hr) && decide (rmN (rmS s t) sold' hr (t + j) + sT (rmS s t) (t + j) 2 ≤ sA (rmS s t) 0)) = true then sT (rmS s t) (t + j) 2 else 0) = rmN s sold hr (t + j + 1) + (if (!sold (t + j + 1) && decide (sT s (t + j + 1) 6 ≤ hr) && decide (rmN s sold hr (t + j + 1) + sT s (t + j + 1) 2 ≤ sA s 0)) = true then sT s (t + j + 1) 2 else 0)
    rw [rm_rmH hs ht j, sT_rm, hs, sk_hi (by omega)]
    rfl
theorem rm_on (hs : ∀ u, sold' u = sold (sk t u)) (ht : sold t = true) (u : Nat) : onN (rmS s t) sold' hr u = onN s sold hr (sk t u) := by
  unfold onN
  rw [sT_rm, hs]
  by_cases h : u < t
  · rw [rm_rmL hs u (by omega), sk_lo h]
    rfl
  · have := rm_rmH (s := s) (hr := hr) hs ht (u - t)
    rw [show t + (u - t) = u by omega] at this
    rw [this, sk_hi h]
    rfl
theorem rm_onT (ht : sold t = true) : onN s sold hr t = false := by
  unfold onN
  rw [ht]
  rfl
theorem rm_drL (hs : ∀ u, sold' u = sold (sk t u)) (ht : sold t = true) : ∀ k : Nat, k ≤ t → drN (rmS s t) sold' hr k = drN s sold hr k
  | 0, _ => rfl
  | k + 1, hk => by
    unfold drN
    rw [rm_drL hs ht k (by omega), sT_rm, rm_on hs ht, sk_lo (by omega)]
theorem rm_drH (hs : ∀ u, sold' u = sold (sk t u)) (ht : sold t = true) : ∀ j : Nat, drN (rmS s t) sold' hr (t + j) = drN s sold hr (t + j + 1)
  | 0 => by
    rw [Nat.add_zero, rm_drL hs ht t (Nat.le_refl _)]
    show _ = drN s sold hr t + if _ then _ else _
    rw [if_neg (by rw [rm_onT ht]; simp)]
    rfl
  | j + 1 => by
    show drN (rmS s t) sold' hr (t + j) + (if onN (rmS s t) sold' hr (t + j) = true ∧ sT (rmS s t) (t + j) 0 = 2 then 1 else 0) = drN s sold hr (t + j + 1) + (if onN s sold hr (t + j + 1) = true ∧ sT s (t + j + 1) 0 = 2 then 1 else 0)
    rw [rm_drH hs ht j, sT_rm, rm_on hs ht, sk_hi (by omega)]
theorem rm_hmL (hs : ∀ u, sold' u = sold (sk t u)) : ∀ k : Nat, k ≤ t → hmN (rmS s t) sold' k = hmN s sold k
  | 0, _ => rfl
  | k + 1, hk => by
    unfold hmN
    rw [rm_hmL hs k (by omega), sT_rm, hs, sk_lo (by omega)]
theorem rm_hmH (hs : ∀ u, sold' u = sold (sk t u)) (ht : sold t = true) : ∀ j : Nat, hmN (rmS s t) sold' (t + j) = hmN s sold (t + j + 1)
  | 0 => by
    rw [Nat.add_zero, rm_hmL hs t (Nat.le_refl _)]
    show _ = hmN s sold t + if _ then _ else _
    rw [if_pos ht]
    rfl
  | j + 1 => by
    show hmN (rmS s t) sold' (t + j) + (if sold' (t + j) = true then 0 else sT (rmS s t) (t + j) 2) = hmN s sold (t + j + 1) + (if sold (t + j + 1) = true then 0 else sT s (t + j + 1) 2)
    rw [rm_hmH hs ht j, sT_rm, hs, sk_hi (by omega)]
end
def mpQ (t : Nat) (o : Option (Nat × Nat)) : Option (Nat × Nat) := o.map (fun q => (sk t q.1, q.2))
section
variable {on on' : Nat → Bool} {pr pr' py py' : Nat → Nat} {pu t : Nat}
theorem ch_step {u k : Nat} (e : chN on pr py pu u = mpQ t (chN on' pr' py' pu k)) (h1 : on' k = on u) (h2 : pr' k = pr u) (h3 : py' k = py u) (h4 : sk t k = u) : chN on pr py pu (u + 1) = mpQ t (chN on' pr' py' pu (k + 1)) := by
  rw [chN_s, chN_s, e, h1, h2, h3]
  cases hc : chN on' pr' py' pu k with
  | none =>
    by_cases g : on u = true ∧ pr u ≤ py u ∧ pr u ≤ pu
    · rw [if_pos ⟨g.1, g.2.1, g.2.2, fun q hq => by cases hq⟩, if_pos ⟨g.1, g.2.1, g.2.2, fun q hq => by cases hq⟩]
      show some (u, _) = some (sk t k, _)
      rw [h4]
    · rw [if_neg (fun z => g ⟨z.1, z.2.1, z.2.2.1⟩), if_neg (fun z => g ⟨z.1, z.2.1, z.2.2.1⟩)]
  | some q =>
    by_cases g : on u = true ∧ pr u ≤ py u ∧ pr u ≤ pu ∧ q.2 < py u - pr u
    · rw [if_pos ⟨g.1, g.2.1, g.2.2.1, fun w hw => by cases hw; exact g.2.2.2⟩, if_pos ⟨g.1, g.2.1, g.2.2.1, fun w hw => by cases hw; exact g.2.2.2⟩]
      show some (u, _) = some (sk t k, _)
      rw [h4]
    · rw [if_neg (fun z => g ⟨z.1, z.2.1, z.2.2.1, z.2.2.2 (sk t q.1, q.2) rfl⟩), if_neg (fun z => g ⟨z.1, z.2.1, z.2.2.1, z.2.2.2 _ rfl⟩)]
theorem ch_L (h1 : ∀ u, on' u = on (sk t u)) (h2 : ∀ u, pr' u = pr (sk t u)) (h3 : ∀ u, py' u = py (sk t u)) : ∀ k : Nat, k ≤ t → chN on pr py pu k = mpQ t (chN on' pr' py' pu k)
  | 0, _ => rfl
  | k + 1, hk => by
    have e := sk_lo (t := t) (u := k) (by omega)
    exact ch_step (ch_L h1 h2 h3 k (by omega)) (by rw [h1, e]) (by rw [h2, e]) (by rw [h3, e]) e
theorem ch_H (h1 : ∀ u, on' u = on (sk t u)) (h2 : ∀ u, pr' u = pr (sk t u)) (h3 : ∀ u, py' u = py (sk t u)) (ht : on t = false) : ∀ j : Nat, chN on pr py pu (t + j + 1) = mpQ t (chN on' pr' py' pu (t + j))
  | 0 => by
    rw [Nat.add_zero, chN_s, if_neg (by rw [ht]; simp)]
    exact ch_L h1 h2 h3 t (Nat.le_refl _)
  | j + 1 => by
    have e := sk_hi (t := t) (u := t + j) (by omega)
    exact ch_step (u := t + j + 1) (k := t + j) (ch_H h1 h2 h3 ht j) (by rw [h1, e]) (by rw [h2, e]) (by rw [h3, e]) e
end
/-- a morning without the thing, and one with it at home -/
def Rw (t : Nat) (M' M : MS) : Prop := (∀ u, mS M' u = mS M (sk t u)) ∧ mS M t = true ∧ mK M' = mK M ∧ mC M' = mC M ∧ ∀ u, mB M u = (mB M' u).map (sk t)
theorem rm_moS {s : SG} {t b : Nat} (ht : t < sN s) {M' M : MS} (hR : Rw t M' M) : Rw t (moS (rmS s t) p0 M' b) (moS s (pHe t) M b) := by
  obtain ⟨r1, r2, r3, r4, r5⟩ := hR
  have hfr : frN (rmS s t) M' b = frN s M b := by
    unfold frN
    rw [r4, r5]
    cases mB M' (b - 1) <;> rfl
  have hco : coN (rmS s t) p0 M' b = coN s (pHe t) M b := by
    unfold coN
    rw [hfr]
    rfl
  have hpr : ∀ u, prN (rmS s t) u (sB s b 0) = prN s (sk t u) (sB s b 0) := fun u => by
    unfold prN
    rw [sT_rm]
    rfl
  have htk : tkN s (pHe t) M b = (tkN (rmS s t) p0 M' b).map (sk t) := by
    have hdr : drN (rmS s t) (mS M') (sB s b 0) (sN s - 1) = drN s (mS M) (sB s b 0) (sN s) := by
      have := rm_drH (s := s) (hr := sB s b 0) r1 r2 (sN s - 1 - t)
      rw [show t + (sN s - 1 - t) = sN s - 1 by omega, show sN s - 1 + 1 = sN s by omega] at this
      exact this
    have hch := ch_H (on := onN s (mS M) (sB s b 0)) (on' := onN (rmS s t) (mS M') (sB s b 0)) (pr := fun u => prN s u (sB s b 0)) (pr' := fun u => prN (rmS s t) u (sB s b 0)) (py := fun u => pyN s none b u (drN s (mS M) (sB s b 0) (sN s))) (py' := fun u => pyN (rmS s t) none b u (drN (rmS s t) (mS M') (sB s b 0) (sN s - 1))) (pu := sB s b 2) (t := t) (rm_on r1 r2) hpr (fun u => by
      rw [hdr]
      unfold pyN
      rw [sT_rm]
      rfl) (rm_onT r2) (sN s - 1 - t)
    rw [show t + (sN s - 1 - t) = sN s - 1 by omega, show sN s - 1 + 1 = sN s by omega] at hch
    show Option.map (fun q : Nat × Nat => q.1) (chN (onN s (mS M) (sB s b 0)) (fun u => prN s u (sB s b 0)) (fun u => pyN s none b u (drN s (mS M) (sB s b 0) (sN s))) (sB s b 2) (sN s)) = Option.map (sk t) (Option.map (fun q : Nat × Nat => q.1) (chN (onN (rmS s t) (mS M') (sB s b 0)) (fun u => prN (rmS s t) u (sB s b 0)) (fun u => pyN (rmS s t) none b u (drN (rmS s t) (mS M') (sB s b 0) (sN s - 1))) (sB s b 2) (sN s - 1)))
    rw [hch]
    cases chN (onN (rmS s t) (mS M') (sB s b 0)) (fun u => prN (rmS s t) u (sB s b 0)) (fun u => pyN (rmS s t) none b u (drN (rmS s t) (mS M') (sB s b 0) (sN s - 1))) (sB s b 2) (sN s - 1) <;> rfl
  have hB : ∀ (x : Option Nat) (u : Nat), up (mB M) b (x.map (sk t)) u = (up (mB M') b x u).map (sk t) := fun x u => by
    by_cases e : u = b
    · subst e; rw [up_at, up_at]
    · rw [up_ne e, up_ne e]; exact r5 u
  unfold moS
  rw [hco, htk]
  by_cases c : coN s (pHe t) M b = true
  · rw [if_pos c, if_pos c]
    unfold moT
    cases tkN (rmS s t) p0 M' b with
    | none => exact ⟨r1, r2, r3, by show up _ _ _ = up _ _ _; rw [r4], hB none⟩
    | some x =>
      refine ⟨fun u => ?_, ?_, ?_, by show up _ _ _ = up _ _ _; rw [r4], hB (some x)⟩
      · show up (mS M') x true u = up (mS M) (sk t x) true (sk t u)
        by_cases e : u = x
        · subst e; rw [up_at, up_at]
        · rw [up_ne e, up_ne (fun z => e (sk_inj z))]; exact r1 u
      · show up (mS M) (sk t x) true t = true
        rw [up_ne (fun z => sk_ne t x z.symm)]; exact r2
      · show mK M' + prN (rmS s t) x (sB s b 0) = mK M + prN s (sk t x) (sB s b 0)
        rw [hpr, r3]
  · rw [if_neg c, if_neg c]
    exact ⟨r1, r2, r3, by show up _ _ _ = up _ _ _; rw [r4], hB none⟩
theorem rm_mo {s : SG} {t : Nat} (ht : t < sN s) : ∀ b : Nat, Rw t (mo (rmS s t) p0 b) (mo s (pHe t) b)
  | 0 => ⟨fun u => by
      show decide ((none : Option Nat) = some u) = decide (some t = some (sk t u))
      rw [decide_eq_false (by simp), decide_eq_false (fun z => sk_ne t u (Option.some.inj z).symm)], decide_eq_true rfl, rfl, rfl, fun u => rfl⟩
  | b + 1 => rm_moS ht (rm_mo ht b)
theorem rm_ga {s : SG} {t : Nat} (ht : t < sN s) : gaI (rmS s t) p0 = gaI s (pHe t) := by
  obtain ⟨r1, r2, r3, -⟩ := rm_mo ht (sM s)
  have := rm_hmH (s := s) r1 r2 (sN s - 1 - t)
  rw [show t + (sN s - 1 - t) = sN s - 1 by omega, show sN s - 1 + 1 = sN s by omega] at this
  unfold gaI hoN
  show nI (mK (mo (rmS s t) p0 (sM s))) - nI (sA s 3 * hmN (rmS s t) (mS (mo (rmS s t) p0 (sM s))) (sN s - 1)) = _
  rw [this, r3]
def wtI (A : XA) (t : Nat) : Int32 := gaI (aS A) p0 - gaI (aS A) (pHe t)
def dbN (f : Nat → Int32) : Nat → Nat
  | 0 => 0
  | k + 1 => if f (dbN f k) < f (k + 1) then k + 1 else dbN f k
theorem dbN_le (f : Nat → Int32) : ∀ k : Nat, dbN f k ≤ k
  | 0 => Nat.le_refl _
  | k + 1 => by
    have ih := dbN_le f k
    unfold dbN
    split <;> omega
def oWth (A : XA) (t : Int32) : XA × Int32 := match thI (sN (aS A)) t with
  | none => rfI A 0 (-1000002)
  | some t => (A, wtI A t)
def oDst (A : XA) : XA × Int32 := if sN (aS A) = 0 then rfI A 3 (-5) else (A, nI (dbN (wtI A) (sN (aS A) - 1)))
section
variable {b m : Nat} {u : LU} {A : XA} {h h1 : Hp} {K : Option Value → Hp → Prop}
theorem k119 (hC : CL b A h) (hW : WF A) {t : Nat} (ht : t < sN (aS A)) (kk : ∀ h2, Fr (CW b) h h2 → CL b A h2 → K (some (.int (wtI A t))) h2) : AM 119 [.ref b, .int (nI t)] h K := by
  obtain ⟨⟨cn, kb, f0, f1, f3, f4, f5, f6⟩, ⟨ρ, β, hQ, hV, hO, -⟩, -, ⟨ρ', β', hT⟩, -⟩ := id hC
  have k5 : gK h (b + 73) = 5 := hT.1
  simp only [e119, v119_0, v119_1, v119_4, v119_5, v119_8, kb, f0, f1, f3, f4, f5, f6, vrf_s, true_and, true_or, or_true, and_self, not_false_eq_true, pu_s, pu_n, z2_e0, z2_n0, z2_t, z2_f, k5]
  refine c44 cn (by omega) hT (by omega) hQ hV hO (fun h2 q2 hP2 hG2 => ?_)
  have hC2 := hC.ut hW q2 TWc ⟨ρ', β', hP2.1⟩
  obtain ⟨⟨cn2, kb2, -, -, g3, -⟩, -⟩ := id hC2
  obtain ⟨⟨t1, t2, t3, t4, hQ2, t6, t7⟩, hV2, hS2, hT2, hG2'⟩ := id hP2
  have k3 : gK h2 (b + 74) = 3 := hQ2.1
  simp only [pu_s, v119_11, v119_12, v119_13, v119_16, v119_19, v119_20, kb2, g3, vrf_s, t1, t2, k3, true_and]
  refine c24 hQ2 hV2 hO ht (fun h3 q3 hQ3 hV3 => ?_)
  have q3t : Fr (TW (b + 74) (b + 110)) h2 h3 := q3.mo (fun x j z => by unfold PT2 at z; unfold TW; omega)
  have hS3 : TS (b + 73) (b + 74) (b + 110) (fun i => ρ' (sgu t (sN (aS A) - 1) i)) β' h3 := ⟨q3.k.trans t1, (q3.r (fun z => by unfold PT2 at z; omega)).trans t2, (q3.r (fun z => by unfold PT2 at z; omega)).trans t3, t4.fr q3 (fun j _ _ z => by unfold PT2 at z; omega), hQ3, t6, t7⟩
  have kb3 : gK h3 b = 6 := q3.k.trans kb2
  have g33 : gR h3 b 3 = some (b + 73) := (q3.r (fun z => by unfold PT2 at z; omega)).trans g3
  have k53 := hS3.1
  have cn3 := cn2.fr q3 (fun a j z => by unfold PT2 at z; omega)
  simp only [pu_n, v119_23, v119_24, v119_25, v119_28, kb3, g33, vrf_s, k53, true_and]
  refine c45 cn3 (by omega) hS3 hV3 (hO.rm ht) (fun h4 q4 hP4 hD4 => ?_)
  have q5 := (q2.tr q3t).tr q4
  simp only [pu_s, v119_31, v119_32, rm_ga ht]
  exact kk h4 (q5.mo TWw) (hC.ut hW q5 TWc ⟨_, _, hP4.1⟩)
theorem k92 (hC : CL b A h) (hW : WF A) (t : Int32) (kk : ∀ h2, Fr (CW b) h h2 → CL b (oWth A t).1 h2 → K (some (.int (oWth A t).2)) h2) : AM 92 [.ref b, .int t] h K := by
  obtain ⟨⟨cn, kb, f0, f1, f3, f4, f5, f6⟩, hST, hKP, hTR, hTA, ⟨s1, s2, s3⟩, hRF⟩ := id hC
  unfold oWth at kk
  cases h0 : thI (sN (aS A)) t with
  | none =>
    rw [h0] at kk
    simp only [e92, v92_0, v92_1, v92_2, v92_5, v92_8, v92_9, v92_11, kb, f0, f1, f3, f4, f5, f6, vrf_s, true_and, true_or, or_true, and_self, not_false_eq_true, pu_s, pu_n, z2_e0, z2_n0, z2_t, z2_f, k111 hC hW, h0, Option.isSome_none, reduceIte]
    exact k109 (w := 0) hC hW (by decide) (by decide) (fun h2 q2 hC2 => by simp only [pu_s, v92_14, far2, far3, far4, far5]; exact kk h2 q2 hC2)
  | some t' =>
    rw [h0] at kk
    have hn := hW.1.1
    obtain ⟨rfl, ht⟩ := thI_s (by omega) h0
    simp only [e92, v92_0, v92_1, v92_2, v92_5, v92_15, v92_16, v92_17, kb, f0, f1, f3, f4, f5, f6, vrf_s, true_and, true_or, or_true, and_self, not_false_eq_true, pu_s, pu_n, z2_e0, z2_n0, z2_t, z2_f, k111 hC hW, h0, Option.isSome_some, i10, reduceIte]
    exact k119 hC hW ht (fun h2 q2 hC2 => by simp only [pu_s, v92_20]; exact kk h2 q2 hC2)
theorem k95 (hC : CL b A h) (hW : WF A) (kk : ∀ h2, Fr (CW b) h h2 → CL b (oDst A).1 h2 → K (some (.int (oDst A).2)) h2) : AM 95 [.ref b] h K := by
  obtain ⟨⟨cn, kb, f0, f1, f3, f4, f5, f6⟩, hST, hKP, hTR, hTA, ⟨s1, s2, s3⟩, hRF⟩ := id hC
  have hn := hW.1.1
  unfold oDst at kk
  obtain ⟨ρ, β, hQ, hV, hO, -⟩ := id hST
  have k3 := hQ.1
  have l0 : (nI (sN (aS A)) = 0) = (sN (aS A) = 0) := (nLit (s := sN (aS A)) (by omega)).1
  by_cases g : sN (aS A) = 0
  · rw [if_pos g] at kk
    simp only [e95, v95_0, v95_1, v95_4, v95_7, v95_10, v95_11, v95_13, kb, f0, f1, f3, f4, f5, f6, vrf_s, true_and, true_or, or_true, and_self, not_false_eq_true, pu_s, pu_n, z2_e0, z2_n0, z2_t, z2_f, k3, hV.1, l0, q00, g, not_true_eq_false, reduceIte]
    exact k108 (w := 3) hC hW (by decide) (by decide) (fun h2 q2 hC2 => by simp only [pu_s, v95_16]; exact kk h2 q2 hC2)
  · rw [if_neg g] at kk
    have l : ∀ (j k : Nat) (h1 : Hp) (v4 : Value), k + j = sN (aS A) - 1 → Fr (CW b) h h1 → CL b A h1 → V 95 27 [.ref b, .int (nI (dbN (wtI A) k)), .int (wtI A (dbN (wtI A) k)), .int (nI (k + 1)), v4] [] h1 K := by
      intro j
      induction j with
      | zero =>
        intro k h1 v4 hk hf hC1
        have e : k = sN (aS A) - 1 := by omega
        subst e
        obtain ⟨⟨cn1, kb1, g0, -⟩, ⟨ρ1, β1, hQ1, hV1, -⟩, -⟩ := id hC1
        have k31 := hQ1.1
        have e8 : (nI (sN (aS A)) ≤ nI (sN (aS A) - 1 + 1)) = True := eq_true (nI_le (by omega) (by omega))
        simp only [v95_27, v95_28, v95_29, v95_32, v95_35, v95_62, v95_63, kb1, g0, vrf_s, k31, hV1.1, e8, reduceIte, true_and]
        exact kk h1 hf hC1
      | succ j ih =>
        intro k h1 v4 hk hf hC1
        obtain ⟨⟨cn1, kb1, g0, -⟩, ⟨ρ1, β1, hQ1, hV1, -⟩, -⟩ := id hC1
        have k31 := hQ1.1
        have e8 : (nI (sN (aS A)) ≤ nI (k + 1)) = False := eq_false (nI_ge (by omega) (by omega))
        simp only [v95_27, v95_28, v95_29, v95_32, v95_35, v95_38, v95_39, v95_40, kb1, g0, vrf_s, k31, hV1.1, e8, reduceIte, true_and]
        refine k119 hC1 hW (by omega) (fun h2 q2 hC2 => ?_)
        have go := ih (k + 1) h2 (.int (wtI A (k + 1))) (by omega) (hf.tr q2) hC2
        have r : dbN (wtI A) (k + 1) = if wtI A (dbN (wtI A) k) < wtI A (k + 1) then k + 1 else dbN (wtI A) k := rfl
        rw [r] at go
        by_cases g2 : wtI A (dbN (wtI A) k) < wtI A (k + 1)
        · rw [if_pos g2] at go
          simp only [pu_s, v95_43, v95_45, v95_47, v95_48, v95_51, v95_53, v95_54, v95_55, v95_56, Int32.not_le.mpr g2, reduceIte, nI_1]
          rw [v95_59]
          exact go
        · rw [if_neg g2] at go
          simp only [pu_s, v95_43, v95_45, v95_47, v95_48, v95_56, Int32.not_lt.mp g2, reduceIte, nI_1]
          rw [v95_59]
          exact go
    simp only [e95, v95_0, v95_1, v95_4, v95_7, v95_17, v95_18, v95_19, v95_20, v95_21, kb, f0, f1, f3, f4, f5, f6, vrf_s, true_and, true_or, or_true, and_self, not_false_eq_true, pu_s, pu_n, z2_e0, z2_n0, z2_t, z2_f, k3, hV.1, l0, g, reduceIte]
    refine k119 (t := 0) hC hW (by omega) (fun h2 q2 hC2 => ?_)
    simp only [pu_s, v95_24, v95_25, v95_26]
    exact l (sN (aS A) - 1) 0 h2 _ (Nat.zero_add _) q2 hC2
def WOW (m a j : Nat) : Prop := DW m a j ∨ (a = m ∧ j = 35)
theorem WOm : ∀ a j, WOW m a j → m ≤ a := fun a j z => by unfold WOW DW at z; omega
theorem WOy : ∀ a j, WOW m a j → MY m a j := fun a j z => by unfold WOW DW at z; unfold MY; omega
theorem k212 (hR : MR m u A h) (hW : WF A) {t : Nat} (ht : t < sN (aS A)) (kk : ∀ h2, Fr (WOW m) h h2 → MR m u A h2 → K (some (.int (wtI A t))) h2) : AM 212 [.ref m, .int (nI t)] h K := by
  obtain ⟨r0, hM, hpp, hP, hQ, hS, hT, hF, hL⟩ := id hR
  simp only [e212, v212_0, v212_1, hM.k0, true_and]
  refine c188 hM hP hW.1 (p0_ok _) hpp (fun h2 q2 hD2 => ?_)
  have hR2 := hR.sc hW q2 (fun a j z => z.z)
  obtain ⟨r0, hM2, ⟨p1, ⟨p2, p3⟩, p4, p5, p6⟩, hP2, hQ2, -⟩ := id hR2
  have mpw : ∀ h3, Fr (WOW m) h2 h3 → MP m (aS A) h3 := fun h3 w => hP2.fr hW.1 w (fun a j z => by unfold WOW DW at z; exact ⟨fun y => by omega, fun y => by omega, fun y => by omega⟩)
  simp only [pu_s, v212_4, v212_5, v212_6, v212_7, v212_10, v212_11, hM2.k0, gI_pJ, gI_pR, gJ_pI, gJ_pR, gR_pI, gR_pJ, gK_pI, gK_pJ, gK_pR, gN_pI, gN_pJ, gN_pR, gX_pI, gX_pJ, gX_pR, gS_pI, gS_pJ, gS_pR, gK_cpI, gN_cpI, gK_cpJ, gN_cpJ, gR_cpI, gR_cpJ, gJ_cpI, gI_cpJ, true_and]
  have q3 : Fr (WOW m) h2 (pI h2 m 35 (nI t)) := Fr.rf.pI (Or.inr ⟨rfl, rfl⟩)
  refine c188 (π := pHe t) (hM2.my q3 WOy) (mpw _ q3) hW.1 (pHe_ok ht) ⟨(gI_ne (by omega)).trans p1, ⟨(gI_ne (by omega)).trans p2, fun q hq => (by cases hq)⟩, (gI_ne (by omega)).trans p4, fun q hq => (by cases hq), gI_at _ _ _ _⟩ (fun h3 q4 hD3 => ?_)
  have q5 : Fr (WOW m) h2 h3 := q3.tr (q4.mo (fun a j z => Or.inl z))
  have k7 := (hM2.my q5 WOy).k0
  have q6 : Fr (WOW m) h2 (pI h3 m 35 (-1)) := q5.pI (Or.inr ⟨rfl, rfl⟩)
  have n : ∀ j, 29 ≤ j → j < 35 → gI (pI h3 m 35 (-1)) m j = gI h2 m j := fun j h1 h2 => by rw [gI_ne (by omega), q4.i (fun z => by unfold DW at z; omega), gI_ne (by omega)]
  simp only [pu_s, v212_14, v212_15, v212_16, v212_17, v212_20, v212_21, v212_22, v212_23, k7, true_and]
  exact kk _ ((q2.mo (fun a j z => Or.inl z)).tr q6) (hR2.upd (s := aS A) (q := aQ A) hW q6 WOy ⟨(n 29 (by omega) (by omega)).trans p1, ⟨(n 30 (by omega) (by omega)).trans p2, fun q hq => (by cases hq)⟩, (n 32 (by omega) (by omega)).trans p4, fun q hq => (by cases hq), gI_at _ _ _ _⟩ (mpw _ q6) (hQ2.fr q6 (fun j _ _ z => by unfold WOW DW at z; omega)))
theorem k213 (hR : MR m u A h) (hW : WF A) (t : Int32) (kk : ∀ (h2 : Hp) (u2 : LU), MG m h h2 → MR m u2 (oWth A t).1 h2 → K (some (.int (oWth A t).2)) h2) : AM 213 [.ref m, .int t] h K := by
  obtain ⟨r0, hM, hpp, hP, hQ, hS, hT, hF, hL⟩ := id hR
  unfold oWth at kk
  replace kk := fun h2 => kk h2 u
  cases h0 : thI (sN (aS A)) t with
  | none =>
    rw [h0] at kk
    simp only [e213, v213_0, v213_1, v213_2, v213_5, v213_16, v213_19, v213_20, v213_22, hM.f0, hM.f1, hM.f2, hM.f3, hM.f4, hM.f5, hM.f6, hM.f8, hM.f10, hM.f12, hM.f13, hM.f25, hM.f27, hM.f28, hM.f36, hM.f37, hM.f38, hM.f40, hM.k0, hM.k1, hM.k2, hM.k3, hM.k4, hM.k13, hM.k14, hM.k15, hM.k16, hM.k17, hM.k26, hM.k51, hM.k52, hM.k53, hM.k54, hM.k55, hM.k56, hM.k57, hM.k58, hM.n1, hM.n2, hM.n3, hM.n4, hM.n13, hM.n14, hM.n15, hM.n16, hM.n17, hM.n26, hM.n51, hM.n52, hM.n53, hM.n54, hM.n55, hM.n56, hM.n57, hM.n58, vrf_s, true_or, or_true, true_and, and_true, and_self, not_false_eq_true, pu_s, pu_n, z2_e0, z2_n0, z2_t, z2_f, k136 hR hW, h0, Option.isSome_none, reduceIte]
    exact k134 (w := 0) hR hW (by decide) (by decide) (fun h2 q2 hR2 => by simp only [pu_s, v213_25, v213_26, far2]; exact kk h2 (MG.of q2 (fun a j z => by omega)) hR2)
  | some t' =>
    rw [h0] at kk
    have hn := hW.1.1
    obtain ⟨rfl, ht⟩ := thI_s (by omega) h0
    simp only [e213, v213_0, v213_1, v213_2, v213_5, v213_8, v213_9, v213_10, hM.f0, hM.f1, hM.f2, hM.f3, hM.f4, hM.f5, hM.f6, hM.f8, hM.f10, hM.f12, hM.f13, hM.f25, hM.f27, hM.f28, hM.f36, hM.f37, hM.f38, hM.f40, hM.k0, hM.k1, hM.k2, hM.k3, hM.k4, hM.k13, hM.k14, hM.k15, hM.k16, hM.k17, hM.k26, hM.k51, hM.k52, hM.k53, hM.k54, hM.k55, hM.k56, hM.k57, hM.k58, hM.n1, hM.n2, hM.n3, hM.n4, hM.n13, hM.n14, hM.n15, hM.n16, hM.n17, hM.n26, hM.n51, hM.n52, hM.n53, hM.n54, hM.n55, hM.n56, hM.n57, hM.n58, vrf_s, true_or, or_true, true_and, and_true, and_self, not_false_eq_true, pu_s, pu_n, z2_e0, z2_n0, z2_t, z2_f, k136 hR hW, h0, Option.isSome_some, i10, reduceIte]
    exact k212 hR hW ht (fun h2 q2 hR2 => by simp only [pu_s, v213_13, v213_26]; exact kk h2 (MG.of q2 WOm) hR2)
theorem k217 (hR : MR m u A h) (hW : WF A) (kk : ∀ (h2 : Hp) (u2 : LU), MG m h h2 → MR m u2 (oDst A).1 h2 → K (some (.int (oDst A).2)) h2) : AM 217 [.ref m] h K := by
  obtain ⟨r0, hM, hpp, hP, hQ, hS, hT, hF, hL⟩ := id hR
  have hn := hW.1.1
  unfold oDst at kk
  replace kk := fun h2 => kk h2 u
  have l0 : (nI (sN (aS A)) = 0) = (sN (aS A) = 0) := (nLit (s := sN (aS A)) (by omega)).1
  by_cases g : sN (aS A) = 0
  · rw [if_pos g] at kk
    simp only [e217, v217_0, v217_1, v217_4, v217_7, v217_8, v217_10, hM.k0, hP.1, l0, q00, g, not_true_eq_false, reduceIte, true_and]
    exact k134 (w := 3) hR hW (by decide) (by decide) (fun h2 q2 hR2 => by simp only [pu_s, v217_13]; exact kk h2 (MG.of q2 (fun a j z => by omega)) hR2)
  · rw [if_neg g] at kk
    have l : ∀ (j k : Nat) (h1 : Hp), k + j = sN (aS A) - 1 → Fr (WOW m) h h1 → MR m u A h1 → V 217 18 [.ref m, .int (nI (dbN (wtI A) k)), .int (nI (k + 1))] [] h1 K := by
      intro j
      induction j with
      | zero =>
        intro k h1 hk hf hR1
        have e : k = sN (aS A) - 1 := by omega
        subst e
        have k7 := hR1.2.1.k0
        have e9 := hR1.2.2.2.1.1
        have e8 : (nI (sN (aS A)) ≤ nI (sN (aS A) - 1 + 1)) = True := eq_true (nI_le (by omega) (by omega))
        simp only [v217_18, v217_19, v217_20, v217_23, v217_51, v217_52, k7, e9, e8, reduceIte, true_and]
        exact kk h1 (MG.of hf WOm) hR1
      | succ j ih =>
        intro k h1 hk hf hR1
        have k7 := hR1.2.1.k0
        have e9 := hR1.2.2.2.1.1
        have e8 : (nI (sN (aS A)) ≤ nI (k + 1)) = False := eq_false (nI_ge (by omega) (by omega))
        simp only [v217_18, v217_19, v217_20, v217_23, v217_26, v217_27, v217_28, k7, e9, e8, reduceIte, true_and]
        refine k212 hR1 hW (by omega) (fun h2 q2 hR2 => ?_)
        have k72 := hR2.2.1.k0
        have hb := dbN_le (wtI A) k
        simp only [pu_s, v217_31, v217_32, v217_33, k72, true_and]
        refine k212 hR2 hW (by omega) (fun h3 q3 hR3 => ?_)
        have go := ih (k + 1) h3 (by omega) ((hf.tr q2).tr q3) hR3
        have r : dbN (wtI A) (k + 1) = if wtI A (dbN (wtI A) k) < wtI A (k + 1) then k + 1 else dbN (wtI A) k := rfl
        rw [r] at go
        by_cases g2 : wtI A (dbN (wtI A) k) < wtI A (k + 1)
        · rw [if_pos g2] at go
          simp only [pu_s, v217_36, v217_39, v217_40, v217_44, v217_45, Int32.not_le.mpr g2, reduceIte, nI_1]
          rw [v217_48]
          exact go
        · rw [if_neg g2] at go
          simp only [pu_s, v217_36, v217_43, v217_44, v217_45, Int32.not_lt.mp g2, reduceIte, nI_1]
          rw [v217_48]
          exact go
    simp only [e217, v217_0, v217_1, v217_4, v217_14, v217_15, v217_16, v217_17, hM.k0, hP.1, l0, g, not_false_eq_true, reduceIte, true_and]
    exact l (sN (aS A) - 1) 0 h (Nat.zero_add _) Fr.rf hR
end
