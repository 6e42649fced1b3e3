/-! a thing that isn't sold before noon: the morning is the same at every higher mark -/
theorem sgT_T {s : SG} {t v u j : Nat} (hj : j ≠ 5) : sT (sgT s t 5 v) u j = sT s u j := by
  show up (sT s) t (up (sT s t) 5 v) u j = _
  by_cases e : u = t
  · subst e; rw [up_at, up_ne hj]
  · rw [up_ne e]
theorem rmN_mark {s : SG} {sold : Nat → Bool} {hr t v : Nat} : ∀ n : Nat, rmN (sgT s t 5 v) sold hr n = rmN s sold hr n
  | 0 => rfl
  | n + 1 => by
    unfold rmN
    rw [rmN_mark n, sgT_T (by decide), sgT_T (by decide)]
    rfl
theorem onN_mark {s : SG} {sold : Nat → Bool} {hr t v n : Nat} : onN (sgT s t 5 v) sold hr n = onN s sold hr n := by
  unfold onN
  rw [rmN_mark, sgT_T (by decide), sgT_T (by decide)]
  rfl
theorem drN_mark {s : SG} {sold : Nat → Bool} {hr t v : Nat} : ∀ n : Nat, drN (sgT s t 5 v) sold hr n = drN s sold hr n
  | 0 => rfl
  | n + 1 => by
    unfold drN
    rw [drN_mark n, onN_mark, sgT_T (by decide)]
theorem prN_mark {s : SG} {t v u hr : Nat} (hu : u ≠ t) : prN (sgT s t 5 v) u hr = prN s u hr := by
  have e : ∀ j, sT (sgT s t 5 v) u j = sT s u j := fun j => by
    show up (sT s) t (up (sT s t) 5 v) u j = _
    rw [up_ne hu]
  unfold prN
  rw [e, e]
  rfl
theorem pyN_mark {s : SG} {cap : Option (Nat × Nat)} {t v b u d : Nat} : pyN (sgT s t 5 v) cap b u d = pyN s cap b u d := by
  unfold pyN
  rw [sgT_T (by decide), sgT_T (by decide), sgT_T (by decide)]
  rfl
theorem moS_mark {s : SG} (hO : SOk s) {π : PR} {M : MS} {t v w b : Nat} (hb : b < sM s) (hvw : v ≤ w) (hn : mB (moS (sgT s t 5 v) π M b) b = some t → 6 ≤ sB s b 0) : moS (sgT s t 5 w) π M b = moS (sgT s t 5 v) π M b := by
  have g0 := (hO.2.2.2.1 b hb).1
  have hco : coN (sgT s t 5 w) π M b = coN (sgT s t 5 v) π M b := rfl
  unfold moS at hn ⊢
  rw [hco]
  by_cases c : coN (sgT s t 5 v) π M b = true
  · rw [if_pos c] at hn ⊢
    rw [if_pos c]
    have eon : ∀ x, onN (sgT s t 5 x) (mS M) (sB (sgT s t 5 x) b 0) = onN s (mS M) (sB s b 0) := fun x => by
      funext n
      exact onN_mark
    have epy : ∀ x, (fun u => pyN (sgT s t 5 x) (pCap π) b u (drN (sgT s t 5 x) (mS M) (sB (sgT s t 5 x) b 0) (sN (sgT s t 5 x)))) = (fun u => pyN s (pCap π) b u (drN s (mS M) (sB s b 0) (sN s))) := fun x => by
      funext u
      rw [pyN_mark]
      show pyN s (pCap π) b u (drN (sgT s t 5 x) (mS M) (sB s b 0) (sN s)) = _
      rw [drN_mark]
    -- the same thing is taken
    have htk : tkN (sgT s t 5 w) π M b = tkN (sgT s t 5 v) π M b := by
      unfold tkN
      cases ho : offQ π b with
      | some q => rfl
      | none =>
        dsimp only
        rw [eon, eon, epy, epy]
        show (chN _ (fun u => prN (sgT s t 5 w) u (sB s b 0)) _ (sB s b 2) (sN s)).map _ = (chN _ (fun u => prN (sgT s t 5 v) u (sB s b 0)) _ (sB s b 2) (sN s)).map _
        by_cases h6 : sB s b 0 = 6
        · have : (fun u => prN (sgT s t 5 w) u (sB s b 0)) = (fun u => prN (sgT s t 5 v) u (sB s b 0)) := by
            funext u
            unfold prN
            rw [if_pos h6, if_pos h6, sgT_T (by decide), sgT_T (by decide)]
          rw [this]
        · refine congrArg (fun C => Option.map (fun q : Nat × Nat => q.1) C) (chN_stay (t := t) (fun u hu => ?_) (prN_mono hO hvw g0) (fun m hm => ?_))
          · show prN (sgT s t 5 w) u (sB s b 0) = prN (sgT s t 5 v) u (sB s b 0)
            rw [prN_mark hu, prN_mark hu]
          · have : tkN (sgT s t 5 v) π M b = some t := by
              unfold tkN
              rw [ho]
              dsimp only
              rw [eon, epy]
              exact congrArg (fun C => Option.map (fun q : Nat × Nat => q.1) C) hm
            rw [this] at hn
            have := hn (up_at _ _ _)
            omega
    rw [htk]
    cases hx : tkN (sgT s t 5 v) π M b with
    | none => rfl
    | some u =>
      have hpd : pdN (sgT s t 5 w) π b u = pdN (sgT s t 5 v) π b u := by
        unfold pdN
        cases ho : offQ π b with
        | some q => rfl
        | none =>
          show prN (sgT s t 5 w) u (sB s b 0) = prN (sgT s t 5 v) u (sB s b 0)
          by_cases e : u = t
          · subst e
            rw [hx] at hn
            have := hn (up_at _ _ _)
            have h6 : sB s b 0 = 6 := by omega
            unfold prN
            rw [if_pos h6, if_pos h6, sgT_T (by decide), sgT_T (by decide)]
          · rw [prN_mark e, prN_mark e]
      unfold moT
      dsimp only
      rw [hpd]
  · rw [if_neg c, if_neg c]
