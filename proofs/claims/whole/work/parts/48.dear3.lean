/-! every thing is sold once; the gain at a higher mark -/
theorem moS_mB {s : SG} {π : PR} {M : MS} {b u : Nat} (hu : u ≠ b) : mB (moS s π M b) u = mB M u := by
  unfold moS
  split
  · unfold moT
    split
    · exact up_ne hu
    · exact up_ne hu
  · exact up_ne (f := mB M) hu
theorem moS_mS {s : SG} {π : PR} {M : MS} {b t : Nat} (h : mS M t = true) : mS (moS s π M b) t = true := by
  unfold moS
  split
  · unfold moT
    split
    · rename_i x _
      show up (mS M) x true t = true
      by_cases e : t = x
      · subst e; exact up_at _ _ _
      · rw [up_ne e]; exact h
    · exact h
  · exact h
theorem moS_buy {s : SG} {π : PR} {M : MS} {b t : Nat} (hf : pOff π = none) (h : mB (moS s π M b) b = some t) : mS M t = false ∧ mS (moS s π M b) t = true := by
  unfold moS at h ⊢
  split at h
  · rename_i c
    rw [if_pos c]
    cases hx : tkN s π M b with
    | none =>
      rw [hx] at h
      change up (mB M) b none b = some t at h
      rw [up_at] at h
      cases h
    | some x =>
      rw [hx] at h
      change up (mB M) b (some x) b = some t at h
      rw [up_at] at h
      cases h
      refine ⟨?_, up_at (mS M) t true⟩
      have ho : offQ π b = none := by unfold offQ; rw [hf]
      unfold tkN at hx
      rw [ho] at hx
      dsimp only at hx
      cases hc : chN (onN s (mS M) (sB s b 0)) (fun t => prN s t (sB s b 0)) (fun t => pyN s (pCap π) b t (drN s (mS M) (sB s b 0) (sN s))) (sB s b 2) (sN s) with
      | none => rw [hc] at hx; cases hx
      | some q =>
        rw [hc] at hx
        cases hx
        have := (chN_lt _ _ hc).2.1
        unfold onN at this
        simp only [Bool.and_eq_true, Bool.not_eq_true', decide_eq_true_eq] at this
        exact this.1.1
  · change up (mB M) b none b = some t at h
    rw [up_at] at h
    cases h
theorem mo_sold {s : SG} {π : PR} (hf : pOff π = none) {t : Nat} : ∀ b u : Nat, u < b → mB (mo s π b) u = some t → mS (mo s π b) t = true
  | 0, u, hu, _ => absurd hu (Nat.not_lt_zero u)
  | b + 1, u, hu, h => by
    change mB (moS s π (mo s π b) b) u = some t at h
    show mS (moS s π (mo s π b) b) t = true
    by_cases e : u = b
    · subst e
      exact (moS_buy hf h).2
    · rw [moS_mB e] at h
      exact moS_mS (mo_sold hf b u (by omega) h)
theorem mo_stay {s : SG} {π : PR} {u : Nat} : ∀ j : Nat, mB (mo s π (u + 1 + j)) u = mB (mo s π (u + 1)) u
  | 0 => rfl
  | j + 1 => by
    show mB (moS s π (mo s π (u + 1 + j)) (u + 1 + j)) u = _
    rw [moS_mB (by omega)]
    exact mo_stay j
theorem mo_once {s : SG} {π : PR} (hf : pOff π = none) {t u w N : Nat} (hu : u < w) (hw : w < N) (h1 : mB (mo s π N) u = some t) (h2 : mB (mo s π N) w = some t) : False := by
  have e1 := mo_stay (s := s) (π := π) (u := u) (N - (u + 1))
  have e2 := mo_stay (s := s) (π := π) (u := w) (N - (w + 1))
  have e3 := mo_stay (s := s) (π := π) (u := u) (w - (u + 1))
  rw [show u + 1 + (N - (u + 1)) = N by omega] at e1
  rw [show w + 1 + (N - (w + 1)) = N by omega] at e2
  rw [show u + 1 + (w - (u + 1)) = w by omega] at e3
  have h3 := mo_sold hf w u hu (e3.trans (e1.symm.trans h1))
  have h4 := (moS_buy hf (show mB (moS s π (mo s π w) w) w = some t from e2.symm.trans h2)).1
  rw [h3] at h4
  cases h4
theorem whB_none {bu : Nat → Option Nat} {t : Nat} : ∀ b : Nat, whB bu b t = none → ∀ u, u < b → bu u ≠ some t
  | 0, _, u, hu => absurd hu (Nat.not_lt_zero u)
  | b + 1, h, u, hu => by
    change (if bu b = some t then some b else whB bu b t) = none at h
    split at h
    · cases h
    · rename_i q
      by_cases e : u = b
      · subst e; exact q
      · exact whB_none b h u (by omega)
/-- not sold before noon: whoever buys it comes at noon -/
theorem sbN_f {s : SG} {π : PR} (hf : pOff π = none) {t u : Nat} (h : sbN s π t = false) (hu : u < sM s) (hb : mB (mo s π (sM s)) u = some t) : 6 ≤ sB s u 0 := by
  unfold sbN at h
  cases hw : whB (mB (mo s π (sM s))) (sM s) t with
  | none => exact absurd hb (whB_none _ hw u hu)
  | some w =>
    rw [hw] at h
    obtain ⟨w1, w2⟩ := whB_lt _ _ hw
    have e : u = w := by
      rcases Nat.lt_trichotomy u w with x | x | x
      · exact (mo_once hf x w1 hb w2).elim
      · exact x
      · exact (mo_once hf x hu w2 hb).elim
    subst e
    exact Nat.le_of_not_lt (of_decide_eq_false h)
theorem mo_mark {s : SG} (hO : SOk s) {π : PR} (hf : pOff π = none) {t v w : Nat} (hvw : v ≤ w) (h : sbN (sgT s t 5 v) π t = false) : ∀ b : Nat, b ≤ sM s → mo (sgT s t 5 w) π b = mo (sgT s t 5 v) π b
  | 0, _ => rfl
  | b + 1, hb => by
    show moS (sgT s t 5 w) π (mo (sgT s t 5 w) π b) b = moS (sgT s t 5 v) π (mo (sgT s t 5 v) π b) b
    rw [mo_mark hO hf hvw h b (by omega)]
    refine moS_mark hO (by omega) hvw (fun hx => ?_)
    have e1 := mo_stay (s := sgT s t 5 v) (π := π) (u := b) (sM s - (b + 1))
    rw [show b + 1 + (sM s - (b + 1)) = sM s by omega] at e1
    exact sbN_f (s := sgT s t 5 v) hf h (show b < sM s by omega) (e1.trans hx)
theorem hmN_mark {s : SG} {sold : Nat → Bool} {t v : Nat} : ∀ n : Nat, hmN (sgT s t 5 v) sold n = hmN s sold n
  | 0 => rfl
  | n + 1 => by
    unfold hmN
    rw [hmN_mark n, sgT_T (by decide)]
/-- the gain at every higher mark is the same -/
theorem gaI_mark {s : SG} (hO : SOk s) {π : PR} (hf : pOff π = none) {t v w : Nat} (hvw : v ≤ w) (h : sbN (sgT s t 5 v) π t = false) : gaI (sgT s t 5 w) π = gaI (sgT s t 5 v) π := by
  have e := mo_mark hO hf hvw h (sM s) (Nat.le_refl _)
  unfold gaI hoN
  rw [hmN_mark, hmN_mark]
  show nI (mK (mo (sgT s t 5 w) π (sM s))) - nI (sA s 3 * hmN s (mS (mo (sgT s t 5 w) π (sM s))) (sN s)) = nI (mK (mo (sgT s t 5 v) π (sM s))) - nI (sA s 3 * hmN s (mS (mo (sgT s t 5 v) π (sM s))) (sN s))
  rw [e]
