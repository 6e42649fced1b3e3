/-! THE CLASS'S bestSetting and bestFromOf -/
section
variable {r a o b0 : Nat} {ρ β : Nat → Nat} {s s' : SG} {π : PR} {h h1 : Hp} {K : Option Value → Hp → Prop}
theorem SV.set (hQ : SQ a ρ β h) (hP : SV a ρ β s h) (hO : SOk s) {t k v : Nat} (ht : t < sN s) : SV a ρ β (sgT s t k v) (pI h (ρ t) k (nI v)) := by
  obtain ⟨p1, p2, p3, p4, p5⟩ := hP
  have hn8 := hO.1
  have hm := hO.2.1
  obtain ⟨-, -, -, t4, t5⟩ := hQ.th (show t < 8 by omega)
  refine ⟨by rw [gI_ne (by omega)]; exact p1, by rw [gI_ne (by omega)]; exact p2, fun u hu j hj => ?_, fun b hb j hj => ?_, fun j hj => by rw [gI_ne (by omega)]; exact p5 j hj⟩
  · show _ = nI (up (sT s) t (up (sT s t) k v) u j)
    have hu' : u < sN s := hu
    by_cases e1 : u = t
    · subst e1
      rw [up_at]
      by_cases e2 : j = k
      · subst e2
        rw [gI_at, up_at]
      · rw [gI_ne (fun z => e2 z.2), up_ne e2]
        exact p3 u hu j hj
    · rw [gI_ne (fun z => e1 (hQ.2.2.2.2.2.2.2.2.2.2.2.2.1 u t (by omega) (by omega) z.1)), up_ne e1]
      exact p3 u hu j hj
  · have hb' : b < sM s := hb
    obtain ⟨-, -, -, u4, u5⟩ := hQ.by (show b < 24 by omega)
    rw [gI_ne (by omega)]; exact p4 b hb j hj
theorem SV.ask (hQ : SQ a ρ β h) (hP : SV a ρ β s h) (hO : SOk s) {k v : Nat} : SV a ρ β (sgA s k v) (pI h (a + 35) k (nI v)) := by
  obtain ⟨p1, p2, p3, p4, p5⟩ := hP
  have hn8 := hO.1
  have hm := hO.2.1
  refine ⟨by rw [gI_ne (by omega)]; exact p1, by rw [gI_ne (by omega)]; exact p2, fun u hu j hj => ?_, fun b hb j hj => ?_, fun j hj => ?_⟩
  · have hu' : u < sN s := hu
    obtain ⟨-, -, -, t4, t5⟩ := hQ.th (show u < 8 by omega)
    rw [gI_ne (by omega)]; exact p3 u hu j hj
  · have hb' : b < sM s := hb
    obtain ⟨-, -, -, u4, u5⟩ := hQ.by (show b < 24 by omega)
    rw [gI_ne (by omega)]; exact p4 b hb j hj
  · show _ = nI (up (sA s) k v j)
    by_cases e : j = k
    · subst e; rw [gI_at, up_at]
    · rw [gI_ne (fun z => e z.2), up_ne e]; exact p5 j hj
/-- the table of pays stands for every stall with the same kinds, worths and a's -/
theorem OT.same {cap : Option (Nat × Nat)} (hT : OT o s cap h) (hn : sN s' = sN s) (h0 : ∀ t, t < sN s → sT s' t 0 = sT s t 0 ∧ sT s' t 1 = sT s t 1 ∧ sT s' t 4 = sT s t 4) : OT o s' cap h := by
  have e1 : msk (dwB s') (sN s') = msk (dwB s) (sN s) := by
    rw [hn]
    exact msk_congr _ (fun t ht => by unfold dwB; rw [(h0 t ht).1])
  have e2 : cntN (dwB s') (sN s') = cntN (dwB s) (sN s) := by
    rw [hn]
    exact cntN_congr _ (fun t ht => by unfold dwB; rw [(h0 t ht).1])
  refine ⟨by rw [e1]; exact hT.1, fun so t d q1 q2 q3 => ?_⟩
  rw [e2] at q3
  rw [hn] at q2
  rw [(h0 t q2).1, (h0 t q2).2.1, (h0 t q2).2.2]
  exact hT.2 so t d q1 q2 q3
theorem OT.pI {cap : Option (Nat × Nat)} (hT : OT o s cap h) {x k : Nat} {v : Int32} (hx : x < o) : OT o s cap (pI h x k v) := ⟨by rw [gI_ne (by omega)]; exact hT.1, fun so t d q1 q2 q3 => by rw [gI_ne (by omega)]; exact hT.2 so t d q1 q2 q3⟩
theorem GP.pI (hG : GP o π h) {x k : Nat} {v : Int32} (hx : x < o) : GP o π (pI h x k v) := ⟨by rw [gI_ne (by omega)]; exact hG.1, fun q hq => by rw [gI_ne (by omega)]; exact hG.2 q hq⟩
theorem TP.set (hP : TP r a o ρ β s π h) (hO : SOk s) {t k v : Nat} (ht : t < sN s) (hk : k = 5 ∨ k = 6) : TP r a o ρ β (sgT s t k v) π (pI h (ρ t) k (nI v)) := by
  obtain ⟨hS, hV, hM, hT, hG⟩ := hP
  have hQ := hS.2.2.2.2.1
  have hao := hS.2.2.2.2.2.1
  obtain ⟨-, -, -, t4, t5⟩ := hQ.th (Nat.lt_of_lt_of_le ht hO.1)
  refine ⟨hS, SV.set hQ hV hO ht, hM, OT.same (hT.pI (by omega)) rfl (fun u hu => ?_), hG.pI (by omega)⟩
  have n : ∀ j, j ≠ k → sT (sgT s t k v) u j = sT s u j := fun j hj => by
    show up (sT s) t (up (sT s t) k v) u j = _
    by_cases e : u = t
    · subst e; rw [up_at, up_ne hj]
    · rw [up_ne e]
  exact ⟨n 0 (by omega), n 1 (by omega), n 4 (by omega)⟩
theorem TP.ask (hP : TP r a o ρ β s π h) (hO : SOk s) {k v : Nat} : TP r a o ρ β (sgA s k v) π (pI h (a + 35) k (nI v)) := by
  obtain ⟨hS, hV, hM, hT, hG⟩ := hP
  have hQ := hS.2.2.2.2.1
  have hao := hS.2.2.2.2.2.1
  exact ⟨hS, SV.ask hQ hV hO, hM, OT.same (hT.pI (by omega)) rfl (fun u hu => ⟨rfl, rfl, rfl⟩), hG.pI (by omega)⟩
theorem c49 (hC : CN b0 h) (hP : TP r a o ρ β s π h) (hO : SOk s) (hp : POk s π) (hc : PCl π) {t : Nat} (ht : t < sN s) (kk : ∀ h2, Fr (TW a o) h h2 → TP r a o ρ β s π h2 → K (some (.int (nI (bfN (fun v => gaI (sgT s t 6 v) π) 0 7).1))) h2) : AM 49 [.ref r, .int (nI t)] h K := by
  obtain ⟨⟨t1, t2, t3, t4, hQ, t6, t7⟩, hV, -⟩ := id hP
  obtain ⟨s1, s2, s3, s4, s5, s6, s7, s8, s9, s10, -⟩ := id hQ
  obtain ⟨u1, u2, u3, u4, u5⟩ := hQ.th (Nat.lt_of_lt_of_le ht hO.1)
  obtain ⟨a2, x1, x2, x3, x4⟩ := hC.tb (j := 2) (by decide)
  obtain ⟨a3, y1, y2, y3, y4⟩ := hC.tb (j := 3) (by decide)
  have z1 : gI h a2 6 = nI 0 := x4 6 (by decide)
  have z2 : gI h a3 6 = nI 7 := y4 6 (by decide)
  have n2 : gN h a2 = 7 := x3
  have n3 : gN h a3 = 7 := y3
  have hn8 := hO.1
  have c1 : (nI t).toNatClampNeg = t := nIc (by omega)
  have i1 : inb (nI t) 8 = True := nIb (by omega) (by omega)
  have b6 := (hO.2.2.1 t ht).2.2.2.2.2.2.2.2
  have e6 := hV.t ht (k := 6) (by omega)
  simp only [v49_0, v49_1, v49_2, v49_5, v49_8, v49_9, v49_10, v49_12, v49_15, v49_17, v49_18, v49_21, v49_23, v49_24, v49_27, e49, t1, t2, s1, s2, s5, s6, vrf_s, u1, c1, i1, x1, y1, x2, y2, n2, n3, ib7_0, ib7_1, ib7_2, ib7_3, ib7_4, ib7_5, ib7_6, ib3_0, ib3_1, ib3_2, ib4_0, ib4_1, ib4_2, ib4_3, tc0, tc1, tc2, tc3, tc4, tc5, tc6, z1, z2, true_and, true_or, or_true, and_self]
  show AM 47 [.ref r, .ref (ρ t), .int (nI 6), .int (nI 0), .int (nI 7)] h _
  refine c47 (a := a) (o := o) (ρ := ρ) (β := β) (σ := fun v => sgT s t 6 v) (w0 := sT s t 6) (N := 7) u2 u3 (by omega) (by omega) (by omega) ⟨Nat.zero_le _, b6⟩ (fun v _ q2 => hO.set (Or.inr ⟨rfl, rfl⟩) q2) (fun v _ _ => hp) hc (fun h1 w v _ q2 _ q4 hP1 => ?_) ?_ e6 (fun h2 q2 hP2 => ?_)
  · have := hP1.set (hO.set (t := t) (Or.inr ⟨rfl, rfl⟩) q2) (t := t) (k := 6) (v := v) ht (Or.inr rfl)
    rw [sgT_2] at this
    exact this
  · show TP r a o ρ β (sgT s t 6 (sT s t 6)) π h
    rw [sgT_0]; exact hP
  · change TP r a o ρ β (sgT s t 6 (sT s t 6)) π h2 at hP2
    rw [sgT_0] at hP2
    show V 49 27 _ (pu (some _) []) h2 K
    simp only [pu_s, v49_27]
    exact kk h2 (q2.mo (fun x j z => by unfold YW OW at z; unfold TW; omega)) hP2
theorem c48 (hC : CN b0 h) (hP : TP r a o ρ β s π h) (hO : SOk s) (hp : POk s π) (hc : PCl π) {k : Nat} (hk : k < 4) (kk : ∀ h2, Fr (TW a o) h h2 → TP r a o ρ β s π h2 → K (some (.int (nI (bfN (fun v => gaI (sgA s k v) π) (loA k) (hiA k - loA k)).1))) h2) : AM 48 [.ref r, .int (nI k)] h K := by
  obtain ⟨⟨t1, t2, t3, t4, hQ, t6, t7⟩, hV, -⟩ := id hP
  obtain ⟨s1, s2, s3, s4, s5, s6, s7, s8, s9, s10, -⟩ := id hQ
  obtain ⟨a2, x1, x2, x3, x4⟩ := hC.tb (j := 7) (by decide)
  obtain ⟨a3, y1, y2, y3, y4⟩ := hC.tb (j := 8) (by decide)
  have hk' : k = 0 ∨ k = 1 ∨ k = 2 ∨ k = 3 := by omega
  have z1 : gI h a2 k = nI (loA k) := by rw [x4 k hk]; rcases hk' with rfl | rfl | rfl | rfl <;> rfl
  have z2 : gI h a3 k = nI (hiA k) := by rw [y4 k hk]; rcases hk' with rfl | rfl | rfl | rfl <;> rfl
  have n2 : gN h a2 = 4 := x3
  have n3 : gN h a3 = 4 := y3
  have c1 : (nI k).toNatClampNeg = k := nIc (by omega)
  have i1 : inb (nI k) 4 = True := nIb (by omega) (by omega)
  have hb := hO.askB hk
  have hl := loA_le k
  have e6 := hV.aa hk
  simp only [v48_0, v48_1, v48_2, v48_5, v48_8, v48_9, v48_12, v48_13, v48_14, v48_17, v48_18, v48_19, v48_22, e48, t1, t2, s1, s4, vrf_s, c1, i1, x1, y1, x2, y2, n2, n3, z1, z2, true_and, true_or, or_true, and_self]
  refine c47 (a := a) (o := o) (ρ := ρ) (β := β) (σ := fun v => sgA s k v) (w0 := sA s k) (N := 4) s9 s10 hk (by omega) (by omega) hb (fun v q1 q2 => hO.ask hk q1 q2) (fun v _ _ => hp) hc (fun h1 w v q1 q2 _ q4 hP1 => ?_) ?_ e6 (fun h2 q2 hP2 => ?_)
  · have := hP1.ask (hO.ask hk q1 q2) (k := k) (v := v)
    rw [sgA_2] at this
    exact this
  · show TP r a o ρ β (sgA s k (sA s k)) π h
    rw [sgA_0]; exact hP
  · change TP r a o ρ β (sgA s k (sA s k)) π h2 at hP2
    rw [sgA_0] at hP2
    show V 48 22 _ (pu (some _) []) h2 K
    simp only [pu_s, v48_22]
    exact kk h2 (q2.mo (fun x j z => by unfold YW OW at z; unfold TW; omega)) hP2
end
