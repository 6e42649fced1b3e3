/-! marks up to the own price: the gain is the same -/
theorem prN_low {s : SG} {t x hr : Nat} (hx : x ≤ sT s t 3) : prN (sgT s t 5 x) t hr = sT s t 3 := by
  have ev : sT (sgT s t 5 x) t 5 = x := by
    show up (sT s) t (up (sT s t) 5 x) t 5 = x
    rw [up_at, up_at]
  unfold prN
  rw [ev, sgT_T (show (3 : Nat) ≠ 5 by decide)]
  generalize x * sA (sgT s t 5 x) 1 * hr / 100 = y
  split
  · rfl
  · split
    · rfl
    · omega
theorem moS_low {s : SG} {π : PR} {M : MS} {t v w b : Nat} (hv : v ≤ sT s t 3) (hw : w ≤ sT s t 3) : moS (sgT s t 5 w) π M b = moS (sgT s t 5 v) π M b := by
  have epr : ∀ u hr, prN (sgT s t 5 w) u hr = prN (sgT s t 5 v) u hr := fun u hr => by
    by_cases e : u = t
    · subst e; rw [prN_low hv, prN_low hw]
    · rw [prN_mark e, prN_mark e]
  have eon : ∀ x, onN (sgT s t 5 x) (mS M) (sB (sgT s t 5 x) b 0) = onN s (mS M) (sB s b 0) := fun x => by
    funext n
    exact onN_mark
  have epy : ∀ x, (fun u => pyN (sgT s t 5 x) (pCap π) b u (drN (sgT s t 5 x) (mS M) (sB (sgT s t 5 x) b 0) (sN (sgT s t 5 x)))) = (fun u => pyN s (pCap π) b u (drN s (mS M) (sB s b 0) (sN s))) := fun x => by
    funext u
    rw [pyN_mark]
    show pyN s (pCap π) b u (drN (sgT s t 5 x) (mS M) (sB s b 0) (sN s)) = _
    rw [drN_mark]
  have epf : (fun u => prN (sgT s t 5 w) u (sB s b 0)) = (fun u => prN (sgT s t 5 v) u (sB s b 0)) := funext (fun u => epr u _)
  have htk : tkN (sgT s t 5 w) π M b = tkN (sgT s t 5 v) π M b := by
    unfold tkN
    cases ho : offQ π b with
    | some q => rfl
    | none =>
      dsimp only
      rw [eon, eon, epy, epy]
      show (chN _ (fun u => prN (sgT s t 5 w) u (sB s b 0)) _ (sB s b 2) (sN s)).map _ = (chN _ (fun u => prN (sgT s t 5 v) u (sB s b 0)) _ (sB s b 2) (sN s)).map _
      rw [epf]
  have hpd : ∀ u, pdN (sgT s t 5 w) π b u = pdN (sgT s t 5 v) π b u := fun u => by
    unfold pdN
    cases ho : offQ π b with
    | some q => rfl
    | none => exact epr u _
  have hco : coN (sgT s t 5 w) π M b = coN (sgT s t 5 v) π M b := rfl
  unfold moS
  rw [hco, htk]
  by_cases c : coN (sgT s t 5 v) π M b = true
  · rw [if_pos c, if_pos c]
    cases tkN (sgT s t 5 v) π M b with
    | none => rfl
    | some u =>
      unfold moT
      dsimp only
      rw [hpd]
  · rw [if_neg c, if_neg c]
theorem gaI_low {s : SG} {π : PR} {t v w : Nat} (hv : v ≤ sT s t 3) (hw : w ≤ sT s t 3) : gaI (sgT s t 5 w) π = gaI (sgT s t 5 v) π := by
  have e : ∀ b : Nat, mo (sgT s t 5 w) π b = mo (sgT s t 5 v) π b := by
    intro b
    induction b with
    | zero => rfl
    | succ b ih =>
      show moS (sgT s t 5 w) π (mo (sgT s t 5 w) π b) b = moS (sgT s t 5 v) π (mo (sgT s t 5 v) π b) b
      rw [ih]
      exact moS_low hv hw
  unfold gaI hoN
  rw [hmN_mark, hmN_mark]
  show nI (mK (mo (sgT s t 5 w) π (sM s))) - nI (sA s 3 * hmN s (mS (mo (sgT s t 5 w) π (sM s))) (sN s)) = nI (mK (mo (sgT s t 5 v) π (sM s))) - nI (sA s 3 * hmN s (mS (mo (sgT s t 5 v) π (sM s))) (sN s))
  rw [e]
