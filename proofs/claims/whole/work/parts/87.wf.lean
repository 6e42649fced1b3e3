/-! THE STATE STAYS WELL FORMED -/
section
variable {A : XA}
theorem WF.h (hW : WF A) {sh : Nat → XH} (h : ∀ i, i < 8 → shOk (sN (aS A)) (sh i)) : WF (wH A sh) := ⟨hW.1, hW.2.1, hW.2.2.1, hW.2.2.2.1, h⟩
theorem WF.up (hW : WF A) {s : Nat} {e : XH} (h : shOk (sN (aS A)) e) : WF (wH A (up (aH A) s e)) := hW.h (fun i hi => by
  by_cases g : i = s
  · subst g; rw [up_at]; exact h
  · rw [up_ne g]; exact hW.2.2.2.2 i hi)
theorem WF.wsl (hW : WF A) {s : SG} (hO : SOk s) (hn : sN (aS A) ≤ sN s) : WF (wS A s) := ⟨hO, hW.2.1, hW.2.2.1, hW.2.2.2.1, fun i hi => by
  obtain ⟨h1, h2⟩ := hW.2.2.2.2 i hi
  refine ⟨h1, fun k hk => ?_⟩
  have := h2 k hk
  show k ≤ 4 ∨ (10 ≤ k ∧ k < 10 + sN s)
  omega⟩
theorem wRow (hW : WF A) (s t n : Int32) : WF (oRow A s t n).1 := by
  unfold oRow
  cases h0 : rgI 0 7 s with
  | none => exact hW
  | some s' =>
    cases h1 : rgI 0 4 t with
    | none => exact hW
    | some t' =>
      cases h2 : rgI 0 40 n with
      | none => exact hW
      | some n' =>
        have e1 := rgI_s (by decide) (by decide) h1
        have e2 := rgI_s (by decide) (by decide) h2
        exact hW.up ⟨e2.2.2, fun k hk => by cases hk; exact Or.inl e1.2.2⟩
theorem wSet (hW : WF A) (s i : Int32) (v : Int64) : WF (oSet A s i v).1 := by
  unfold oSet
  cases h0 : rrC A s with
  | some w => exact hW
  | none =>
    obtain ⟨s', es, e1, e2, -⟩ := rrC_n h0
    subst e1
    have c1 : (nI s').toNatClampNeg = s' := nIc (by omega)
    rw [c1]
    have hk := hW.2.2.2.2 s' (by omega)
    cases h1 : thI (aH A s').2.1 i with
    | none => exact hW
    | some i' => exact hW.up ⟨hk.1, hk.2⟩
theorem wShw (hW : WF A) (s t : Int32) : WF (oShw A s t).1 := by
  unfold oShw
  cases h0 : rgI 0 7 s with
  | none => exact hW
  | some s' =>
    have e0 := rgI_s (by decide) (by decide) h0
    have hk := hW.2.2.2.2 s' (by omega)
    have hn := hW.1.1
    dsimp only
    split
    · exact hW.up ⟨hk.1, fun k hk => by cases hk⟩
    · cases h1 : thI (sN (aS A)) t with
      | none => exact hW
      | some t' =>
        have e1 := thI_s (by omega) h1
        exact hW.up ⟨hk.1, fun k hk => by cases hk; exact Or.inr ⟨by omega, by omega⟩⟩
theorem wThg (hW : WF A) (k w r o a : Int32) : WF (oThg A k w r o a).1 := by
  unfold oThg
  cases h0 : rgI 0 5 k with
  | none => exact hW
  | some k' =>
    cases h1 : rgI 1 99 w with
    | none => exact hW
    | some w' =>
      cases h2 : rgI 1 9 r with
      | none => exact hW
      | some r' =>
        cases h3 : rgI 0 99 o with
        | none => exact hW
        | some o' =>
          cases h4 : rgI 0 9 a with
          | none => exact hW
          | some a' =>
            have e0 := rgI_s (by decide) (by decide) h0
            have e1 := rgI_s (by decide) (by decide) h1
            have e2 := rgI_s (by decide) (by decide) h2
            have e3 := rgI_s (by decide) (by decide) h3
            have e4 := rgI_s (by decide) (by decide) h4
            have hn := hW.1.1
            dsimp only
            split
            · exact hW
            · exact hW.wsl (hW.1.add (by omega) e0.2.2 e1.2 e2.2 e3.2.2 e4.2.2) (Nat.le_succ _)
theorem wByr (hW : WF A) (k w r : Int32) : WF (oByr A k w r).1 := by
  unfold oByr
  cases h0 : rgI 0 6 k with
  | none => exact hW
  | some k' =>
    cases h1 : rgI 0 3 w with
    | none => exact hW
    | some w' =>
      cases h2 : rgI 1 99 r with
      | none => exact hW
      | some r' =>
        have e0 := rgI_s (by decide) (by decide) h0
        have e1 := rgI_s (by decide) (by decide) h1
        have e2 := rgI_s (by decide) (by decide) h2
        have hn := hW.1.2.1
        dsimp only
        split
        · exact hW
        · exact hW.ws (hW.1.buy (by omega) e0.2.2 e1.2.2 e2.2) rfl
theorem wChg (hW : WF A) (t w v : Int32) : WF (oChg A t w v).1 := by
  unfold oChg
  cases h0 : thI (sN (aS A)) t with
  | none => exact hW
  | some t' =>
    cases h1 : rgI 0 3 w with
    | none => exact hW
    | some w' =>
      dsimp only
      cases h2 : rgI (loC w') (hiC w') v with
      | none => exact hW
      | some v' =>
        have e1 := rgI_s (by decide) (by decide) h1
        have e2 := rgI_s (l := loC w') (m := hiC w') (by unfold loC; split <;> decide) (by unfold hiC; split <;> decide) h2
        exact hW.ws (hW.1.chg (by omega) e2.2.1 e2.2.2) rfl
theorem wAsk (hW : WF A) (w v : Int32) : WF (oAsk A w v).1 := by
  unfold oAsk
  cases h1 : rgI 0 3 w with
  | none => exact hW
  | some w' =>
    dsimp only
    cases h2 : rgI (loA w') (hiA w') v with
    | none => exact hW
    | some v' =>
      have e1 := rgI_s (by decide) (by decide) h1
      have e2 := rgI_s (l := loA w') (m := hiA w') (by unfold loA; split <;> decide) (by unfold hiA; split; decide; split; decide; split <;> decide) h2
      exact hW.ws (hW.1.ask (by omega) e2.2.1 e2.2.2) rfl
theorem SOk.ct0 {s : SG} (hO : SOk s) : SOk (ctS s 0) := ⟨hO.1, Nat.zero_le _, hO.2.2.1, fun c hc => absurd hc (Nat.not_lt_zero c), fun c d _ hd => absurd hd (Nat.not_lt_zero d), hO.2.2.2.2.2⟩
theorem wClr (hW : WF A) : WF (oClr A).1 := hW.ws hW.1.ct0 rfl
theorem wSed (hW : WF A) (v : Int32) : WF (oSed A v).1 := hW
theorem WF.p (hW : WF A) {p : Nat × (Nat → Nat)} (h1 : p.1 ≤ 250) (h2 : ∀ j, j < p.1 → p.2 j ≤ 255) : WF (wP A p) := ⟨hW.1, hW.2.1, h1, h2, hW.2.2.2.2⟩
theorem wWip (hW : WF A) : WF (oWip A).1 := hW.p (Nat.zero_le _) (fun j hj => absurd hj (Nat.not_lt_zero j))
theorem wFed (hW : WF A) (v : Int32) : WF (oFed A v).1 := by
  unfold oFed
  cases h1 : rgI 0 255 v with
  | none => exact hW
  | some c =>
    have e1 := rgI_s (by decide) (by decide) h1
    have hp := hW.2.2.1
    dsimp only
    split
    · exact hW
    · refine hW.p (by show (aP A).1 + 1 ≤ 250; omega) (fun j hj => ?_)
      have hj' : j < (aP A).1 + 1 := hj
      show up (aP A).2 (aP A).1 c j ≤ 255
      by_cases g : j = (aP A).1
      · subst g; rw [up_at]; exact e1.2.2
      · rw [up_ne g]; exact hW.2.2.2.1 j (by omega)
theorem wMks (hW : WF A) (s : Int32) : WF (oMks A s).1 := by
  unfold oMks
  cases h0 : gmC A s with
  | some w => exact hW
  | none =>
    obtain ⟨-, hw⟩ := gmC_n h0
    exact hW.ws (hW.1.mks (fun t ht => (mkE_ok (fwN_n _ _ hw t (Nat.zero_le _) (by omega))).2)) rfl
theorem wImg (hW : WF A) : WF (oImg A).1 := ⟨hW.1, fun k hk => by cases hk; exact hW.1, hW.2.2⟩
theorem clH_n {o : Option Nat} {k n : Nat} (h : clH o = some k) (hn : ∀ k, o = some k → k ≤ 4 ∨ (10 ≤ k ∧ k < n)) : k ≤ 4 := by
  unfold clH at h
  by_cases g : isTh o = true
  · rw [if_pos g] at h; cases h
  · rw [if_neg g] at h
    rcases hn k h with z | z
    · exact z
    · refine absurd ?_ g
      rw [h]
      exact decide_eq_true z.1
theorem wBck (hW : WF A) : WF (oBck A).1 := by
  unfold oBck
  cases h0 : aK A with
  | none => exact hW
  | some k =>
    refine ⟨hW.2.1 k h0, hW.2.1, hW.2.2.1, hW.2.2.2.1, fun i hi => ?_⟩
    have hk := hW.2.2.2.2 i hi
    have e : shB (aH A) 8 i = (clH (aH A i).1, (aH A i).2) := if_pos hi
    show shOk _ (shB (aH A) 8 i)
    rw [e]
    exact ⟨hk.1, fun k2 hk2 => Or.inl (clH_n hk2 hk.2)⟩
theorem wSwp (hW : WF A) (t v : Int32) : WF (oSwp A t v).1 := by
  unfold oSwp
  cases h0 : thI (sN (aS A)) t with
  | none => exact hW
  | some t' =>
    cases h1 : thI (sN (aS A)) v with
    | none => exact hW
    | some v' =>
      have hn := hW.1.1
      have e0 := thI_s (by omega) h0
      have e1 := thI_s (by omega) h1
      dsimp only
      split
      · exact hW
      · refine ⟨hW.1.sw e0.2 e1.2, hW.2.1, hW.2.2.1, hW.2.2.2.1, fun i hi => ?_⟩
        have hk := hW.2.2.2.2 i hi
        have e : shW t' v' (aH A) 8 i = (swH t' v' (aH A i).1, (aH A i).2) := if_pos hi
        show shOk (sN (aS A)) (shW t' v' (aH A) 8 i)
        rw [e]
        refine ⟨hk.1, fun k2 hk2 => ?_⟩
        have hk3 : swH t' v' (aH A i).1 = some k2 := hk2
        cases ho : (aH A i).1 with
        | none => rw [ho] at hk3; cases hk3
        | some y =>
          rw [ho] at hk3
          have es : swH t' v' (some y) = if y = 10 + t' then some (10 + v') else if y = 10 + v' then some (10 + t') else some y := rfl
          rw [es] at hk3
          have := hk.2 y ho
          split at hk3
          · cases hk3; exact Or.inr ⟨by omega, by omega⟩
          · split at hk3
            · cases hk3; exact Or.inr ⟨by omega, by omega⟩
            · cases hk3; exact this
theorem wCpy (hW : WF A) (s t i j n : Int32) : WF (oCpy A s t i j n).1 := by
  unfold oCpy
  cases h0 : rgI 0 7 s with
  | none => exact hW
  | some a =>
    cases h1 : rgI 0 7 t with
    | none => exact hW
    | some c =>
      have e1 := rgI_s (by decide) (by decide) h1
      have hk := hW.2.2.2.2 c (by omega)
      dsimp only
      repeat' split
      all_goals first
        | exact hW
        | exact hW.up ⟨hk.1, hk.2⟩
theorem wDrw (hW : WF A) (n : Int32) : WF (oDrw A n).1 := by
  unfold oDrw
  have hm := hW.1.2.1
  cases h0 : rgI 1 24 n with
  | none => exact hW
  | some n' => exact hW.dwK _ (by omega)
theorem wBys (hW : WF A) (s n : Int32) : WF (oBys A s n).1 := by
  unfold oBys
  cases h0 : rgI 0 7 s with
  | none => exact hW
  | some i =>
    cases h1 : rgI 3 39 n with
    | none => exact hW
    | some n' =>
      dsimp only
      by_cases g3 : n' % 3 = 0
      · rw [if_pos g3]
        cases hr : rrC A s with
        | some w => exact hW
        | none =>
          dsimp only
          by_cases g4 : n' ≤ (aH A i).2.1 ∧ areB (aH A i).2.2 n' = true
          · rw [if_pos g4]
            by_cases g5 : sM (aS A) + n' / 3 ≤ 24
            · rw [if_pos g5]
              exact hW.ws (bysN_ok hW.1 g4.2 _ (by omega) g5) (bysN_n _ _ _)
            · rw [if_neg g5]; exact hW
          · rw [if_neg g4]; exact hW
      · rw [if_neg g3]; exact hW
theorem wMrn (hW : WF A) : WF (oMrn A).1 := by
  obtain ⟨z1, -⟩ := rmK_c (lfA A) (sN (aS A)) (ctS (aS A) 0) (Nat.le_refl _)
  have zn : sN (rmK (lfA A) (sN (aS A)) (ctS (aS A) 0)) = cntN (lfA A) (sN (aS A)) := by rw [z1]; show _ + (sN (aS A) - sN (aS A)) = _; omega
  obtain ⟨d1, d2, d3, -⟩ := dK_c (lfA A) (sN (aS A))
  refine ⟨rmK_ok _ _ _ hW.1.ct0 (Nat.le_refl _), hW.2.1, hW.2.2.1, hW.2.2.2.1, fun i hi => ?_⟩
  have hk := hW.2.2.2.2 i hi
  refine ⟨hk.1, fun k2 hk2 => ?_⟩
  have hk3 : dK (lfA A) (sN (aS A)) (aH A i).1 = some k2 := hk2
  show k2 ≤ 4 ∨ (10 ≤ k2 ∧ k2 < 10 + sN (rmK (lfA A) (sN (aS A)) (ctS (aS A) 0)))
  rw [zn]
  cases ho : (aH A i).1 with
  | none => rw [ho, d1] at hk3; cases hk3
  | some y =>
    rw [ho] at hk3
    rcases hk.2 y ho with z | z
    · rw [d2 y (by omega)] at hk3
      cases hk3
      exact Or.inl z
    · obtain ⟨t, rfl⟩ : ∃ t, y = 10 + t := ⟨y - 10, by omega⟩
      rw [d3 t (by omega)] at hk3
      split at hk3
      · rename_i g
        cases hk3
        have := cntN_lt g (sN (aS A)) (by omega)
        exact Or.inr ⟨by omega, by omega⟩
      · cases hk3
theorem rd1_n {p : TPE} {s : SG} {T : TKN} {lo hi : Int32} {k : TKN → Bool × SG × TKN} (hk : ∀ T1, sN s ≤ sN (k T1).2.1) : sN s ≤ sN (rd1 s p T lo hi k).2.1 := by
  unfold rd1
  split
  · exact hk _
  · exact Nat.le_refl _
theorem stm_n {p : TPE} {s : SG} {T : TKN} : sN s ≤ sN (stm p s T).2.1 := by
  have h1 : sN s ≤ sN (thT p s T).2.1 := by
    unfold thT
    split
    · refine rd1_n (fun T1 => rd1_n (fun T2 => rd1_n (fun T3 => rd1_n (fun T4 => ?_))))
      split
      · exact rd1_n (fun T6 => Nat.le_succ _)
      · exact Nat.le_succ _
    · exact Nat.le_refl _
  have h2 : sN s ≤ sN (byT p s T).2.1 := by
    unfold byT
    split
    · exact rd1_n (fun T1 => rd1_n (fun T2 => rd1_n (fun T3 => Nat.le_refl _)))
    · exact Nat.le_refl _
  have h3 : ∀ col hi, sN s ≤ sN (ceT p s T col hi).2.1 := fun col hi => rd1_n (fun T1 => rd1_n (fun T2 => Nat.le_refl _))
  have h4 : ∀ w lo hi, sN s ≤ sN (asT p s T w lo hi).2.1 := fun w lo hi => rd1_n (fun T1 => Nat.le_refl _)
  unfold stm
  repeat' split
  all_goals first
    | exact h1
    | exact h2
    | exact h3 _ _
    | exact h4 _ _ _
    | exact Nat.le_refl _
theorem sal_n {p : TPE} : ∀ (d : Nat) (s : SG) (T : TKN) (c : Nat), sN s ≤ sN (sal p d s T c).2.1
  | 0, s, T, c => Nat.le_refl _
  | d + 1, s, T, c => by
    have h := stm_n (p := p) (s := s) (T := T)
    unfold sal
    split
    · split
      · exact h
      · split
        · exact Nat.le_trans h (sal_n d _ _ _)
        · exact h
    · exact h
theorem wSal (hW : WF A) : WF (oSal A).1 := by
  unfold oSal
  obtain ⟨T0, -, -⟩ := tok_ok (p := aP A) (e := 0) (Nat.zero_le _)
  have so := sal_ok hW.2.2.1 ((aP A).1 + 1) (aS A) (tok (aP A) 0) 1 hW.1 T0 (by have := hW.2.2.1; omega)
  have h5 : ∀ {B : XA}, WF B → WF (wP B (0, (aP A).2)) := fun hB => hB.p (Nat.zero_le _) (fun j hj => absurd hj (Nat.not_lt_zero j))
  split
  · exact h5 (hW.wsl so.1 (sal_n _ _ _ _))
  · have z := h5 (B := A) hW
    exact z
end
