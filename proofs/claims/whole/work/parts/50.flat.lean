/-! where the gain stays the same, the best stays -/
theorem bfN_ge (f : Nat → Int32) (lo : Nat) : ∀ k : Nat, f (lo + k) ≤ (bfN f lo k).2
  | 0 => Int32.le_refl _
  | k + 1 => by
    show f (lo + (k + 1)) ≤ (if (bfN f lo k).2 < f (lo + (k + 1)) then (lo + (k + 1), f (lo + (k + 1))) else bfN f lo k).2
    split
    · exact Int32.le_refl _
    · rename_i h
      exact Int32.not_lt.mp h
theorem bfN_flat {f : Nat → Int32} {lo k : Nat} : ∀ n : Nat, (∀ j, j ≤ n → f (lo + (k + j)) = f (lo + k)) → bfN f lo (k + n) = bfN f lo k
  | 0, _ => rfl
  | n + 1, h => by
    have ih := bfN_flat (f := f) (lo := lo) (k := k) n (fun j hj => h j (by omega))
    show (if (bfN f lo (k + n)).2 < f (lo + (k + n + 1)) then (lo + (k + n + 1), f (lo + (k + n + 1))) else bfN f lo (k + n)) = bfN f lo k
    rw [ih, show k + n + 1 = k + (n + 1) by omega, h (n + 1) (Nat.le_refl _), if_neg (Int32.not_lt.mpr (bfN_ge f lo k))]
