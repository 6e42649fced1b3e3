/-! a thing that isn't chosen may get dearer -/
def Rch (t : Nat) (C C' : Option (Nat × Nat)) : Prop := C = C' ∨ ∃ m, C = some (t, m) ∧ ∀ q, C' = some q → q.2 ≤ m
theorem chN_s (on : Nat → Bool) (pr py : Nat → Nat) (pu n : Nat) : chN on pr py pu (n + 1) = if on n = true ∧ pr n ≤ py n ∧ pr n ≤ pu ∧ (∀ q, chN on pr py pu n = some q → q.2 < py n - pr n) then some (n, py n - pr n) else chN on pr py pu n := rfl
theorem chN_eq {on : Nat → Bool} {pr pr' py : Nat → Nat} {pu t : Nat} (he : ∀ u, u ≠ t → pr' u = pr u) : ∀ n : Nat, n ≤ t → chN on pr py pu n = chN on pr' py pu n
  | 0, _ => rfl
  | n + 1, hn => by rw [chN_s, chN_s, chN_eq he n (by omega), he n (by omega)]
theorem chN_dear {on : Nat → Bool} {pr pr' py : Nat → Nat} {pu t : Nat} (he : ∀ u, u ≠ t → pr' u = pr u) (hle : pr t ≤ pr' t) : ∀ n : Nat, Rch t (chN on pr py pu n) (chN on pr' py pu n)
  | 0 => Or.inl rfl
  | n + 1 => by
    have ih := chN_dear (on := on) (py := py) (pu := pu) he hle n
    rw [chN_s on pr, chN_s on pr']
    by_cases e : n = t
    · subst e
      have e0 := chN_eq (on := on) (py := py) (pu := pu) he n (Nat.le_refl _)
      rw [← e0]
      generalize chN on pr py pu n = C
      by_cases c1 : on n = true ∧ pr n ≤ py n ∧ pr n ≤ pu ∧ (∀ q, C = some q → q.2 < py n - pr n)
      · rw [if_pos c1]
        refine Or.inr ⟨_, rfl, fun q hq => ?_⟩
        split at hq
        · cases hq
          show py n - pr' n ≤ py n - pr n
          omega
        · have := c1.2.2.2 q hq
          omega
      · rw [if_neg c1, if_neg (fun z => c1 ⟨z.1, by omega, by omega, fun q hq => by have := z.2.2.2 q hq; omega⟩)]
        exact Or.inl rfl
    · rw [he n e]
      rcases ih with ih | ⟨m, h1, h2⟩
      · rw [← ih]
        exact Or.inl rfl
      · rw [h1]
        generalize chN on pr' py pu n = C' at h2
        by_cases c1 : on n = true ∧ pr n ≤ py n ∧ pr n ≤ pu ∧ m < py n - pr n
        · rw [if_pos ⟨c1.1, c1.2.1, c1.2.2.1, fun q hq => by cases hq; exact c1.2.2.2⟩, if_pos ⟨c1.1, c1.2.1, c1.2.2.1, fun q hq => Nat.lt_of_le_of_lt (h2 q hq) c1.2.2.2⟩]
          exact Or.inl rfl
        · rw [if_neg (fun z => c1 ⟨z.1, z.2.1, z.2.2.1, z.2.2.2 _ rfl⟩)]
          refine Or.inr ⟨m, rfl, fun q hq => ?_⟩
          split at hq
          · rename_i z
            cases hq
            show py n - pr n ≤ m
            exact Nat.le_of_not_lt (fun y => c1 ⟨z.1, z.2.1, z.2.2.1, y⟩)
          · exact h2 q hq
theorem chN_stay {on : Nat → Bool} {pr pr' py : Nat → Nat} {pu t n : Nat} (he : ∀ u, u ≠ t → pr' u = pr u) (hle : pr t ≤ pr' t) (hn : ∀ m, chN on pr py pu n ≠ some (t, m)) : chN on pr' py pu n = chN on pr py pu n := by
  rcases chN_dear (on := on) (py := py) (pu := pu) he hle n with h | ⟨m, h, -⟩
  · exact h.symm
  · exact absurd h (hn m)
/-- the price of a thing grows with its mark -/
theorem prN_mono {s : SG} (hO : SOk s) {t v w hr : Nat} (hv : v ≤ w) (hh : hr ≤ 6) : prN (sgT s t 5 v) t hr ≤ prN (sgT s t 5 w) t hr := by
  have ev : ∀ x, sT (sgT s t 5 x) t 5 = x := fun x => by
    show up (sT s) t (up (sT s t) 5 x) t 5 = x
    rw [up_at, up_at]
  have e3 : ∀ x, sT (sgT s t 5 x) t 3 = sT s t 3 := fun x => by
    show up (sT s) t (up (sT s t) 5 x) t 3 = _
    rw [up_at, up_ne (by decide)]
  have ea : ∀ x, sA (sgT s t 5 x) 1 = sA s 1 := fun _ => rfl
  unfold prN
  rw [ev, ev, e3, e3, ea, ea]
  have c : sA s 1 * hr ≤ 84 := Nat.mul_le_mul hO.2.2.2.2.2.2.2.1 hh
  rw [Nat.mul_assoc, Nat.mul_assoc]
  generalize sA s 1 * hr = k at c
  have m1 : w * k = v * k + (w - v) * k := by rw [← Nat.add_mul, Nat.add_sub_cancel' hv]
  have m2 : (w - v) * k ≤ (w - v) * 84 := Nat.mul_le_mul_left _ c
  have m3 : v - v * k / 100 ≤ w - w * k / 100 := by
    rw [m1]
    generalize v * k = x
    generalize (w - v) * k = y at m2
    omega
  split
  · exact Nat.le_refl _
  · split
    · split <;> omega
    · split <;> omega
