variable {l : Launch} {b0 : Nat} {D : va_G} {cy : Nat → ClassId} {p : Program} {e : Env} {R : Room} {s : State} {m : MethodId} {args : Array Value} {below : List Frame} {meth : Method} {c : Code} {H : Heap} {locs : List Loc} {cells slots : Nat} {Q : State → Prop} {y pc pc' : Nat} {L L' st st' : List Value} {h h' : Hp} {ls : Array Slot}

theorem Rl.cell (hR : Rl b0 D cy H h) {a : Nat} (h1 : 1 ≤ gK h a) (h2 : gK h a ≤ 13) : va_at D vwCl (a, eOf cy h a) H := by
  obtain ⟨hP, hz, hle, hb1, hk1, hk2, hk3⟩ := hR
  obtain ⟨g1, g2⟩ := hk1 a h1 h2
  exact hP (a - b0) _ (wsO_at g1 (by omega))
theorem Rl.a0 (hR : Rl b0 D cy H h) {a : Nat} (h1 : 1 ≤ gK h a) (h2 : gK h a ≤ 13) : a ≠ 0 ∧ b0 ≤ a ∧ a < gX h := by
  obtain ⟨hP, hz, hle, hb1, hk1, hk2, hk3⟩ := hR
  obtain ⟨g1, g2⟩ := hk1 a h1 h2
  exact ⟨by omega, g1, g2⟩
theorem Rl.obj (hR : Rl b0 D cy H h) {a ci : Nat} (hci : ci < 7) (hk : gK h a = ci + 1) : va_P D vwCl [(a, .inr (ci, fls ci (gI h a) (gR h a)))] H := by
  have h1 := hR.cell (a := a) (by omega) (by omega)
  have e : eOf cy h a = .inr (ci, fls ci (gI h a) (gR h a)) := by
    unfold eOf eCl
    rw [if_pos (by omega), hk]
    rfl
  rw [e] at h1
  intro k q hq
  have hz : k < 1 := (List.getElem?_eq_some_iff.mp hq).1
  rw [show k = 0 by omega] at hq
  cases hq
  exact h1
theorem Rl.ai (hR : Rl b0 D cy H h) {a : Nat} (hk : gK h a = 8) : H[a]? = some (arrV (cy 8) (gN h a) (fun j => .int (gI h a j))) := by
  have h1 := hR.cell (a := a) (by omega) (by omega)
  have e : eOf cy h a = .inl (cy 8, gN h a, .inl (gI h a)) := by simp [eOf, eCl, hk]
  rw [e] at h1
  exact h1
theorem Rl.az (hR : Rl b0 D cy H h) {a : Nat} (hk : gK h a = 10) : H[a]? = some (arrV (cy 10) (gN h a) (fun j => .int (gI h a j))) := by
  have h1 := hR.cell (a := a) (by omega) (by omega)
  have e : eOf cy h a = .inl (cy 10, gN h a, .inl (gI h a)) := by simp [eOf, eCl, hk]
  rw [e] at h1
  exact h1
theorem Rl.aj (hR : Rl b0 D cy H h) {a : Nat} (hk : gK h a = 9) : H[a]? = some (arrV (cy 9) (gN h a) (fun j => .long (gJ h a j))) := by
  have h1 := hR.cell (a := a) (by omega) (by omega)
  have e : eOf cy h a = .inl (cy 9, gN h a, .inr (.inl (gJ h a))) := by simp [eOf, eCl, hk]
  rw [e] at h1
  exact h1
theorem Rl.aq (hR : Rl b0 D cy H h) {a : Nat} (hk : gK h a = 11 ∨ gK h a = 12 ∨ gK h a = 13) : H[a]? = some (arrV (cy (gK h a)) (gN h a) (fun j => va_rf (gR h a j))) := by
  have h1 := hR.cell (a := a) (by omega) (by omega)
  have e : eOf cy h a = .inl (cy (gK h a), gN h a, .inr (.inr (.inr (.inr (gR h a))))) := by
    unfold eOf eCl
    rw [if_neg (by omega), if_neg (by omega), if_neg (by omega)]
  rw [e] at h1
  exact h1
/-- one cell is written -/
theorem Rl.upd (hR : Rl b0 D cy H h) {H' : Heap} {a : Nat} (z : H'.size = H.size) (oq : ∀ q : Nat, q ≠ a → H'[q]? = H[q]?) (he : va_at D vwCl (a, eOf cy h' a) H') (ho : ∀ b, b ≠ a → eOf cy h' b = eOf cy h b) (hX : gX h' = gX h) (hKk : ∀ b, gK h' b = gK h b) : Rl b0 D cy H' h' := by
  obtain ⟨hP, hz, hle, hb1, hk1, hk2, hk3⟩ := hR
  refine ⟨fun k q hq => ?_, by rw [z, hz, hX], by rw [hX]; exact hle, hb1, fun b h1 h2 => by rw [hKk] at h1 h2; rw [hX]; exact hk1 b h1 h2, fun b h1 h2 => by rw [hKk]; rw [hX] at h2; exact hk2 b h1 h2, fun b h1 => by rw [hKk]; rw [hX] at h1; exact hk3 b h1⟩
  rw [hX] at hq
  obtain ⟨hkn, rfl⟩ := wsO_inv hq
  by_cases e : b0 + k = a
  · subst e
    exact he
  · rw [ho _ e]
    exact (hP k _ (wsO_get hkn)).kept (oq _ e)
theorem cst_pI (hR : Rl b0 D cy H h) {a k : Nat} {v : Int32} (h1 : 1 ≤ gK h a) (h2 : gK h a ≤ 13) : Cst h (pI h a k v) := by
  have h0 := (hR.a0 h1 h2).1
  refine ⟨fun j _ => rfl, fun j _ => ?_, fun q hq => hq, fun q hq => ⟨rfl, rfl, fun j => ?_, fun j => rfl⟩⟩
  · show (if 0 = a ∧ j = k then v else gI h 0 j) = _
    rw [if_neg (fun z => h0 z.1.symm)]
  · show (if q = a ∧ j = k then v else gI h q j) = _
    rw [if_neg (fun z => by have := z.1; subst this; omega)]
theorem cst_pJ {a k : Nat} {v : Int64} : Cst h (pJ h a k v) := ⟨fun _ _ => rfl, fun _ _ => rfl, fun _ q => q, fun _ _ => ⟨rfl, rfl, fun _ => rfl, fun _ => rfl⟩⟩
theorem cst_pR (hR : Rl b0 D cy H h) {a k : Nat} {v : Option Nat} (h1 : 1 ≤ gK h a) (h2 : gK h a ≤ 13) : Cst h (pR h a k v) := by
  have h0 := (hR.a0 h1 h2).1
  refine ⟨fun j _ => ?_, fun j _ => rfl, fun q hq => hq, fun q hq => ⟨rfl, rfl, fun j => rfl, fun j => ?_⟩⟩
  · show (if 0 = a ∧ j = k then v else gR h 0 j) = _
    rw [if_neg (fun z => h0 z.1.symm)]
  · show (if q = a ∧ j = k then v else gR h q j) = _
    rw [if_neg (fun z => by have := z.1; subst this; omega)]
theorem cst_cpI (hR : Rl b0 D cy H h) {a sp d dp n : Nat} (h1 : 1 ≤ gK h d) (h2 : gK h d ≤ 13) : Cst h (cpI h a sp d dp n) := by
  have h0 := (hR.a0 h1 h2).1
  refine ⟨fun j _ => rfl, fun j _ => ?_, fun q hq => hq, fun q hq => ⟨rfl, rfl, fun j => ?_, fun j => rfl⟩⟩
  · show (if 0 = d ∧ dp ≤ j ∧ j < dp + n then _ else gI h 0 j) = _
    rw [if_neg (fun z => h0 z.1.symm)]
  · show (if q = d ∧ dp ≤ j ∧ j < dp + n then _ else gI h q j) = _
    rw [if_neg (fun z => by have := z.1; subst this; omega)]
theorem cst_cpJ {a sp d dp n : Nat} : Cst h (cpJ h a sp d dp n) := ⟨fun _ _ => rfl, fun _ _ => rfl, fun _ q => q, fun _ _ => ⟨rfl, rfl, fun _ => rfl, fun _ => rfl⟩⟩
theorem gst_lt {y i : Nat} (h : gst y i = true) : i < mxl y := by
  simp only [gst, Bool.and_eq_true, decide_eq_true_eq] at h
  exact h.1.1
theorem gsl_lt {y i : Nat} (h : gsl y i = true) : i + 1 < mxl y := by
  simp only [gsl, Bool.and_eq_true, decide_eq_true_eq] at h
  exact h.1.1.1
theorem ci_link {o i : Nat} {v : Int32 × Nat} (hv : tfind ciT o i = some v) : Cond.constant (onm o) i v.1 ∈ gtb := by
  have h1 := tf_mem hv
  have h2 : ∀ q ∈ ciT, Cond.constant (onm q.1.1) q.1.2 q.2.1 ∈ lw_tbl ∧ goodWord (Cond.constant (onm q.1.1) q.1.2 q.2.1) = true := by decide +kernel
  exact List.mem_filter.mpr (h2 _ h1)
theorem cj_link {o i : Nat} {v : Int64 × Nat} (hv : tfind cjT o i = some v) : Cond.constantLong (onm o) i v.1 ∈ gtb := by
  have h1 := tf_mem hv
  have h2 : ∀ q ∈ cjT, Cond.constantLong (onm q.1.1) q.1.2 q.2.1 ∈ lw_tbl ∧ goodWord (Cond.constantLong (onm q.1.1) q.1.2 q.2.1) = true := by decide +kernel
  exact List.mem_filter.mpr (h2 _ h1)
theorem fd_link {o i : Nat} {q : Nat × Nat × Nat} (hq : tfind fdT o i = some q) (hci : q.1 < 7) : Cond.fieldLink (onm o) i ((cO q.1).2.1 q.2.1).1 ((cO q.1).2.1 q.2.1).2.1 ((cO q.1).2.1 q.2.1).2.2.1 ∈ gtb := by
  have h1 := List.all_eq_true.mp fd_ok1 _ (tf_mem hq)
  unfold fdC at h1
  rw [if_pos hci] at h1
  exact gtb_of (of_decide_eq_true h1) rfl
theorem fd_linkS {o i : Nat} {q : Nat × Nat × Nat} (hq : tfind fdT o i = some q) (hci : ¬ q.1 < 7) : Cond.fieldLink (onm o) i "java/lang/String" (if q.2.1 = 0 then "value" else "coder") (if q.2.1 = 0 then "[B" else "B") ∈ gtb := by
  have h1 := List.all_eq_true.mp fd_ok1 _ (tf_mem hq)
  unfold fdC at h1
  rw [if_neg hci] at h1
  exact gtb_of (of_decide_eq_true h1) rfl

theorem jk_iconst {i : Int} (hC : Ctx b0 D cy p R s m args meth c y) (hS : Stt b0 D cy s y H locs ls L h) (hd : decode (bts y) pc = .ok (.iconst i, 1)) (ha : sxx y pc (.iconst i) L st h = aJ pc' L' st' h') (hrm : cells + (gX h' - gX h) ≤ R.cells ∧ slots + (gS h' - gS h) ≤ R.slots) (kk : ∀ (ls' : Array Slot) (H' : Heap) (locs' : List Loc), Stt b0 D cy s y H' locs' ls' L' h' → W p l e R s m args below meth c H' locs' (cells + (gX h' - gX h)) (slots + (gS h' - gS h)) Q (F0 m pc' ls' st')) : W p l e R s m args below meth c H locs cells slots Q (F0 m pc ls st) := by
  obtain ⟨hx, hb, hml, hown, hts, hb0, hK, hfr, hlo, hnm⟩ := hC
  simp only [sxx] at ha
  simp only [aJ, Option.some.injEq, Sum.inr.injEq, Sum.inl.injEq, Prod.mk.injEq] at ha
  obtain ⟨rfl, rfl, rfl, rfl⟩ := ha
  simp only [Nat.sub_self, Nat.add_zero] at kk
  exact lv_iconst hx hb hd rfl (kk _ _ _ hS)

theorem jk_bipush {i : Int} (hC : Ctx b0 D cy p R s m args meth c y) (hS : Stt b0 D cy s y H locs ls L h) (hd : decode (bts y) pc = .ok (.bipush i, 2)) (ha : sxx y pc (.bipush i) L st h = aJ pc' L' st' h') (hrm : cells + (gX h' - gX h) ≤ R.cells ∧ slots + (gS h' - gS h) ≤ R.slots) (kk : ∀ (ls' : Array Slot) (H' : Heap) (locs' : List Loc), Stt b0 D cy s y H' locs' ls' L' h' → W p l e R s m args below meth c H' locs' (cells + (gX h' - gX h)) (slots + (gS h' - gS h)) Q (F0 m pc' ls' st')) : W p l e R s m args below meth c H locs cells slots Q (F0 m pc ls st) := by
  obtain ⟨hx, hb, hml, hown, hts, hb0, hK, hfr, hlo, hnm⟩ := hC
  simp only [sxx] at ha
  simp only [aJ, Option.some.injEq, Sum.inr.injEq, Sum.inl.injEq, Prod.mk.injEq] at ha
  obtain ⟨rfl, rfl, rfl, rfl⟩ := ha
  simp only [Nat.sub_self, Nat.add_zero] at kk
  exact lv_bipush hx hb hd rfl (kk _ _ _ hS)

theorem jk_sipush {i : Int} (hC : Ctx b0 D cy p R s m args meth c y) (hS : Stt b0 D cy s y H locs ls L h) (hd : decode (bts y) pc = .ok (.sipush i, 3)) (ha : sxx y pc (.sipush i) L st h = aJ pc' L' st' h') (hrm : cells + (gX h' - gX h) ≤ R.cells ∧ slots + (gS h' - gS h) ≤ R.slots) (kk : ∀ (ls' : Array Slot) (H' : Heap) (locs' : List Loc), Stt b0 D cy s y H' locs' ls' L' h' → W p l e R s m args below meth c H' locs' (cells + (gX h' - gX h)) (slots + (gS h' - gS h)) Q (F0 m pc' ls' st')) : W p l e R s m args below meth c H locs cells slots Q (F0 m pc ls st) := by
  obtain ⟨hx, hb, hml, hown, hts, hb0, hK, hfr, hlo, hnm⟩ := hC
  simp only [sxx] at ha
  simp only [aJ, Option.some.injEq, Sum.inr.injEq, Sum.inl.injEq, Prod.mk.injEq] at ha
  obtain ⟨rfl, rfl, rfl, rfl⟩ := ha
  simp only [Nat.sub_self, Nat.add_zero] at kk
  exact lv_sipush hx hb hd rfl (kk _ _ _ hS)

theorem jk_lconst {k : Fin 2} (hC : Ctx b0 D cy p R s m args meth c y) (hS : Stt b0 D cy s y H locs ls L h) (hd : decode (bts y) pc = .ok (.lconst k, 1)) (ha : sxx y pc (.lconst k) L st h = aJ pc' L' st' h') (hrm : cells + (gX h' - gX h) ≤ R.cells ∧ slots + (gS h' - gS h) ≤ R.slots) (kk : ∀ (ls' : Array Slot) (H' : Heap) (locs' : List Loc), Stt b0 D cy s y H' locs' ls' L' h' → W p l e R s m args below meth c H' locs' (cells + (gX h' - gX h)) (slots + (gS h' - gS h)) Q (F0 m pc' ls' st')) : W p l e R s m args below meth c H locs cells slots Q (F0 m pc ls st) := by
  obtain ⟨hx, hb, hml, hown, hts, hb0, hK, hfr, hlo, hnm⟩ := hC
  simp only [sxx] at ha
  simp only [aJ, Option.some.injEq, Sum.inr.injEq, Sum.inl.injEq, Prod.mk.injEq] at ha
  obtain ⟨rfl, rfl, rfl, rfl⟩ := ha
  simp only [Nat.sub_self, Nat.add_zero] at kk
  exact lv_lconst hx hb hd rfl (kk _ _ _ hS)

theorem jk_iadd (hC : Ctx b0 D cy p R s m args meth c y) (hS : Stt b0 D cy s y H locs ls L h) (hd : decode (bts y) pc = .ok (.iadd, 1)) (ha : sxx y pc (.iadd) L st h = aJ pc' L' st' h') (hrm : cells + (gX h' - gX h) ≤ R.cells ∧ slots + (gS h' - gS h) ≤ R.slots) (kk : ∀ (ls' : Array Slot) (H' : Heap) (locs' : List Loc), Stt b0 D cy s y H' locs' ls' L' h' → W p l e R s m args below meth c H' locs' (cells + (gX h' - gX h)) (slots + (gS h' - gS h)) Q (F0 m pc' ls' st')) : W p l e R s m args below meth c H locs cells slots Q (F0 m pc ls st) := by
  obtain ⟨hx, hb, hml, hown, hts, hb0, hK, hfr, hlo, hnm⟩ := hC
  simp only [sxx] at ha
  split at ha
  · simp only [aJ, Option.some.injEq, Sum.inr.injEq, Sum.inl.injEq, Prod.mk.injEq] at ha
    obtain ⟨rfl, rfl, rfl, rfl⟩ := ha
    simp only [Nat.sub_self, Nat.add_zero] at kk
    exact lv_iadd hx hb hd (kk _ _ _ hS)
  · cases ha

theorem jk_isub (hC : Ctx b0 D cy p R s m args meth c y) (hS : Stt b0 D cy s y H locs ls L h) (hd : decode (bts y) pc = .ok (.isub, 1)) (ha : sxx y pc (.isub) L st h = aJ pc' L' st' h') (hrm : cells + (gX h' - gX h) ≤ R.cells ∧ slots + (gS h' - gS h) ≤ R.slots) (kk : ∀ (ls' : Array Slot) (H' : Heap) (locs' : List Loc), Stt b0 D cy s y H' locs' ls' L' h' → W p l e R s m args below meth c H' locs' (cells + (gX h' - gX h)) (slots + (gS h' - gS h)) Q (F0 m pc' ls' st')) : W p l e R s m args below meth c H locs cells slots Q (F0 m pc ls st) := by
  obtain ⟨hx, hb, hml, hown, hts, hb0, hK, hfr, hlo, hnm⟩ := hC
  simp only [sxx] at ha
  split at ha
  · simp only [aJ, Option.some.injEq, Sum.inr.injEq, Sum.inl.injEq, Prod.mk.injEq] at ha
    obtain ⟨rfl, rfl, rfl, rfl⟩ := ha
    simp only [Nat.sub_self, Nat.add_zero] at kk
    exact lv_isub hx hb hd (kk _ _ _ hS)
  · cases ha

theorem jk_imul (hC : Ctx b0 D cy p R s m args meth c y) (hS : Stt b0 D cy s y H locs ls L h) (hd : decode (bts y) pc = .ok (.imul, 1)) (ha : sxx y pc (.imul) L st h = aJ pc' L' st' h') (hrm : cells + (gX h' - gX h) ≤ R.cells ∧ slots + (gS h' - gS h) ≤ R.slots) (kk : ∀ (ls' : Array Slot) (H' : Heap) (locs' : List Loc), Stt b0 D cy s y H' locs' ls' L' h' → W p l e R s m args below meth c H' locs' (cells + (gX h' - gX h)) (slots + (gS h' - gS h)) Q (F0 m pc' ls' st')) : W p l e R s m args below meth c H locs cells slots Q (F0 m pc ls st) := by
  obtain ⟨hx, hb, hml, hown, hts, hb0, hK, hfr, hlo, hnm⟩ := hC
  simp only [sxx] at ha
  split at ha
  · simp only [aJ, Option.some.injEq, Sum.inr.injEq, Sum.inl.injEq, Prod.mk.injEq] at ha
    obtain ⟨rfl, rfl, rfl, rfl⟩ := ha
    simp only [Nat.sub_self, Nat.add_zero] at kk
    exact lv_imul hx hb hd (kk _ _ _ hS)
  · cases ha

theorem jk_iand (hC : Ctx b0 D cy p R s m args meth c y) (hS : Stt b0 D cy s y H locs ls L h) (hd : decode (bts y) pc = .ok (.iand, 1)) (ha : sxx y pc (.iand) L st h = aJ pc' L' st' h') (hrm : cells + (gX h' - gX h) ≤ R.cells ∧ slots + (gS h' - gS h) ≤ R.slots) (kk : ∀ (ls' : Array Slot) (H' : Heap) (locs' : List Loc), Stt b0 D cy s y H' locs' ls' L' h' → W p l e R s m args below meth c H' locs' (cells + (gX h' - gX h)) (slots + (gS h' - gS h)) Q (F0 m pc' ls' st')) : W p l e R s m args below meth c H locs cells slots Q (F0 m pc ls st) := by
  obtain ⟨hx, hb, hml, hown, hts, hb0, hK, hfr, hlo, hnm⟩ := hC
  simp only [sxx] at ha
  split at ha
  · simp only [aJ, Option.some.injEq, Sum.inr.injEq, Sum.inl.injEq, Prod.mk.injEq] at ha
    obtain ⟨rfl, rfl, rfl, rfl⟩ := ha
    simp only [Nat.sub_self, Nat.add_zero] at kk
    exact lv_iand hx hb hd (kk _ _ _ hS)
  · cases ha

theorem jk_ior (hC : Ctx b0 D cy p R s m args meth c y) (hS : Stt b0 D cy s y H locs ls L h) (hd : decode (bts y) pc = .ok (.ior, 1)) (ha : sxx y pc (.ior) L st h = aJ pc' L' st' h') (hrm : cells + (gX h' - gX h) ≤ R.cells ∧ slots + (gS h' - gS h) ≤ R.slots) (kk : ∀ (ls' : Array Slot) (H' : Heap) (locs' : List Loc), Stt b0 D cy s y H' locs' ls' L' h' → W p l e R s m args below meth c H' locs' (cells + (gX h' - gX h)) (slots + (gS h' - gS h)) Q (F0 m pc' ls' st')) : W p l e R s m args below meth c H locs cells slots Q (F0 m pc ls st) := by
  obtain ⟨hx, hb, hml, hown, hts, hb0, hK, hfr, hlo, hnm⟩ := hC
  simp only [sxx] at ha
  split at ha
  · simp only [aJ, Option.some.injEq, Sum.inr.injEq, Sum.inl.injEq, Prod.mk.injEq] at ha
    obtain ⟨rfl, rfl, rfl, rfl⟩ := ha
    simp only [Nat.sub_self, Nat.add_zero] at kk
    exact lv_ior hx hb hd (kk _ _ _ hS)
  · cases ha

theorem jk_ishl (hC : Ctx b0 D cy p R s m args meth c y) (hS : Stt b0 D cy s y H locs ls L h) (hd : decode (bts y) pc = .ok (.ishl, 1)) (ha : sxx y pc (.ishl) L st h = aJ pc' L' st' h') (hrm : cells + (gX h' - gX h) ≤ R.cells ∧ slots + (gS h' - gS h) ≤ R.slots) (kk : ∀ (ls' : Array Slot) (H' : Heap) (locs' : List Loc), Stt b0 D cy s y H' locs' ls' L' h' → W p l e R s m args below meth c H' locs' (cells + (gX h' - gX h)) (slots + (gS h' - gS h)) Q (F0 m pc' ls' st')) : W p l e R s m args below meth c H locs cells slots Q (F0 m pc ls st) := by
  obtain ⟨hx, hb, hml, hown, hts, hb0, hK, hfr, hlo, hnm⟩ := hC
  simp only [sxx] at ha
  split at ha
  · simp only [aJ, Option.some.injEq, Sum.inr.injEq, Sum.inl.injEq, Prod.mk.injEq] at ha
    obtain ⟨rfl, rfl, rfl, rfl⟩ := ha
    simp only [Nat.sub_self, Nat.add_zero] at kk
    exact lv_ishl hx hb hd (kk _ _ _ hS)
  · cases ha

theorem jk_ishr (hC : Ctx b0 D cy p R s m args meth c y) (hS : Stt b0 D cy s y H locs ls L h) (hd : decode (bts y) pc = .ok (.ishr, 1)) (ha : sxx y pc (.ishr) L st h = aJ pc' L' st' h') (hrm : cells + (gX h' - gX h) ≤ R.cells ∧ slots + (gS h' - gS h) ≤ R.slots) (kk : ∀ (ls' : Array Slot) (H' : Heap) (locs' : List Loc), Stt b0 D cy s y H' locs' ls' L' h' → W p l e R s m args below meth c H' locs' (cells + (gX h' - gX h)) (slots + (gS h' - gS h)) Q (F0 m pc' ls' st')) : W p l e R s m args below meth c H locs cells slots Q (F0 m pc ls st) := by
  obtain ⟨hx, hb, hml, hown, hts, hb0, hK, hfr, hlo, hnm⟩ := hC
  simp only [sxx] at ha
  split at ha
  · simp only [aJ, Option.some.injEq, Sum.inr.injEq, Sum.inl.injEq, Prod.mk.injEq] at ha
    obtain ⟨rfl, rfl, rfl, rfl⟩ := ha
    simp only [Nat.sub_self, Nat.add_zero] at kk
    exact lv_ishr hx hb hd (kk _ _ _ hS)
  · cases ha

theorem jk_land (hC : Ctx b0 D cy p R s m args meth c y) (hS : Stt b0 D cy s y H locs ls L h) (hd : decode (bts y) pc = .ok (.land, 1)) (ha : sxx y pc (.land) L st h = aJ pc' L' st' h') (hrm : cells + (gX h' - gX h) ≤ R.cells ∧ slots + (gS h' - gS h) ≤ R.slots) (kk : ∀ (ls' : Array Slot) (H' : Heap) (locs' : List Loc), Stt b0 D cy s y H' locs' ls' L' h' → W p l e R s m args below meth c H' locs' (cells + (gX h' - gX h)) (slots + (gS h' - gS h)) Q (F0 m pc' ls' st')) : W p l e R s m args below meth c H locs cells slots Q (F0 m pc ls st) := by
  obtain ⟨hx, hb, hml, hown, hts, hb0, hK, hfr, hlo, hnm⟩ := hC
  simp only [sxx] at ha
  split at ha
  · simp only [aJ, Option.some.injEq, Sum.inr.injEq, Sum.inl.injEq, Prod.mk.injEq] at ha
    obtain ⟨rfl, rfl, rfl, rfl⟩ := ha
    simp only [Nat.sub_self, Nat.add_zero] at kk
    exact lv_land hx hb hd (kk _ _ _ hS)
  · cases ha

theorem jk_lor (hC : Ctx b0 D cy p R s m args meth c y) (hS : Stt b0 D cy s y H locs ls L h) (hd : decode (bts y) pc = .ok (.lor, 1)) (ha : sxx y pc (.lor) L st h = aJ pc' L' st' h') (hrm : cells + (gX h' - gX h) ≤ R.cells ∧ slots + (gS h' - gS h) ≤ R.slots) (kk : ∀ (ls' : Array Slot) (H' : Heap) (locs' : List Loc), Stt b0 D cy s y H' locs' ls' L' h' → W p l e R s m args below meth c H' locs' (cells + (gX h' - gX h)) (slots + (gS h' - gS h)) Q (F0 m pc' ls' st')) : W p l e R s m args below meth c H locs cells slots Q (F0 m pc ls st) := by
  obtain ⟨hx, hb, hml, hown, hts, hb0, hK, hfr, hlo, hnm⟩ := hC
  simp only [sxx] at ha
  split at ha
  · simp only [aJ, Option.some.injEq, Sum.inr.injEq, Sum.inl.injEq, Prod.mk.injEq] at ha
    obtain ⟨rfl, rfl, rfl, rfl⟩ := ha
    simp only [Nat.sub_self, Nat.add_zero] at kk
    exact lv_lor hx hb hd (kk _ _ _ hS)
  · cases ha

theorem jk_ineg (hC : Ctx b0 D cy p R s m args meth c y) (hS : Stt b0 D cy s y H locs ls L h) (hd : decode (bts y) pc = .ok (.ineg, 1)) (ha : sxx y pc (.ineg) L st h = aJ pc' L' st' h') (hrm : cells + (gX h' - gX h) ≤ R.cells ∧ slots + (gS h' - gS h) ≤ R.slots) (kk : ∀ (ls' : Array Slot) (H' : Heap) (locs' : List Loc), Stt b0 D cy s y H' locs' ls' L' h' → W p l e R s m args below meth c H' locs' (cells + (gX h' - gX h)) (slots + (gS h' - gS h)) Q (F0 m pc' ls' st')) : W p l e R s m args below meth c H locs cells slots Q (F0 m pc ls st) := by
  obtain ⟨hx, hb, hml, hown, hts, hb0, hK, hfr, hlo, hnm⟩ := hC
  simp only [sxx] at ha
  split at ha
  · simp only [aJ, Option.some.injEq, Sum.inr.injEq, Sum.inl.injEq, Prod.mk.injEq] at ha
    obtain ⟨rfl, rfl, rfl, rfl⟩ := ha
    simp only [Nat.sub_self, Nat.add_zero] at kk
    exact lv_ineg hx hb hd (kk _ _ _ hS)
  · cases ha

theorem jk_iushr (hC : Ctx b0 D cy p R s m args meth c y) (hS : Stt b0 D cy s y H locs ls L h) (hd : decode (bts y) pc = .ok (.iushr, 1)) (ha : sxx y pc (.iushr) L st h = aJ pc' L' st' h') (hrm : cells + (gX h' - gX h) ≤ R.cells ∧ slots + (gS h' - gS h) ≤ R.slots) (kk : ∀ (ls' : Array Slot) (H' : Heap) (locs' : List Loc), Stt b0 D cy s y H' locs' ls' L' h' → W p l e R s m args below meth c H' locs' (cells + (gX h' - gX h)) (slots + (gS h' - gS h)) Q (F0 m pc' ls' st')) : W p l e R s m args below meth c H locs cells slots Q (F0 m pc ls st) := by
  obtain ⟨hx, hb, hml, hown, hts, hb0, hK, hfr, hlo, hnm⟩ := hC
  simp only [sxx] at ha
  split at ha
  · simp only [aJ, Option.some.injEq, Sum.inr.injEq, Sum.inl.injEq, Prod.mk.injEq] at ha
    obtain ⟨rfl, rfl, rfl, rfl⟩ := ha
    simp only [Nat.sub_self, Nat.add_zero] at kk
    exact lv_iushr hx hb hd rfl (kk _ _ _ hS)
  · cases ha

theorem jk_i2l (hC : Ctx b0 D cy p R s m args meth c y) (hS : Stt b0 D cy s y H locs ls L h) (hd : decode (bts y) pc = .ok (.i2l, 1)) (ha : sxx y pc (.i2l) L st h = aJ pc' L' st' h') (hrm : cells + (gX h' - gX h) ≤ R.cells ∧ slots + (gS h' - gS h) ≤ R.slots) (kk : ∀ (ls' : Array Slot) (H' : Heap) (locs' : List Loc), Stt b0 D cy s y H' locs' ls' L' h' → W p l e R s m args below meth c H' locs' (cells + (gX h' - gX h)) (slots + (gS h' - gS h)) Q (F0 m pc' ls' st')) : W p l e R s m args below meth c H locs cells slots Q (F0 m pc ls st) := by
  obtain ⟨hx, hb, hml, hown, hts, hb0, hK, hfr, hlo, hnm⟩ := hC
  simp only [sxx] at ha
  split at ha
  · simp only [aJ, Option.some.injEq, Sum.inr.injEq, Sum.inl.injEq, Prod.mk.injEq] at ha
    obtain ⟨rfl, rfl, rfl, rfl⟩ := ha
    simp only [Nat.sub_self, Nat.add_zero] at kk
    exact lv_i2l hx hb hd rfl (kk _ _ _ hS)
  · cases ha

theorem jk_l2i (hC : Ctx b0 D cy p R s m args meth c y) (hS : Stt b0 D cy s y H locs ls L h) (hd : decode (bts y) pc = .ok (.l2i, 1)) (ha : sxx y pc (.l2i) L st h = aJ pc' L' st' h') (hrm : cells + (gX h' - gX h) ≤ R.cells ∧ slots + (gS h' - gS h) ≤ R.slots) (kk : ∀ (ls' : Array Slot) (H' : Heap) (locs' : List Loc), Stt b0 D cy s y H' locs' ls' L' h' → W p l e R s m args below meth c H' locs' (cells + (gX h' - gX h)) (slots + (gS h' - gS h)) Q (F0 m pc' ls' st')) : W p l e R s m args below meth c H locs cells slots Q (F0 m pc ls st) := by
  obtain ⟨hx, hb, hml, hown, hts, hb0, hK, hfr, hlo, hnm⟩ := hC
  simp only [sxx] at ha
  split at ha
  · simp only [aJ, Option.some.injEq, Sum.inr.injEq, Sum.inl.injEq, Prod.mk.injEq] at ha
    obtain ⟨rfl, rfl, rfl, rfl⟩ := ha
    simp only [Nat.sub_self, Nat.add_zero] at kk
    exact lv_l2i hx hb hd rfl (kk _ _ _ hS)
  · cases ha

theorem jk_i2b (hC : Ctx b0 D cy p R s m args meth c y) (hS : Stt b0 D cy s y H locs ls L h) (hd : decode (bts y) pc = .ok (.i2b, 1)) (ha : sxx y pc (.i2b) L st h = aJ pc' L' st' h') (hrm : cells + (gX h' - gX h) ≤ R.cells ∧ slots + (gS h' - gS h) ≤ R.slots) (kk : ∀ (ls' : Array Slot) (H' : Heap) (locs' : List Loc), Stt b0 D cy s y H' locs' ls' L' h' → W p l e R s m args below meth c H' locs' (cells + (gX h' - gX h)) (slots + (gS h' - gS h)) Q (F0 m pc' ls' st')) : W p l e R s m args below meth c H locs cells slots Q (F0 m pc ls st) := by
  obtain ⟨hx, hb, hml, hown, hts, hb0, hK, hfr, hlo, hnm⟩ := hC
  simp only [sxx] at ha
  split at ha
  · simp only [aJ, Option.some.injEq, Sum.inr.injEq, Sum.inl.injEq, Prod.mk.injEq] at ha
    obtain ⟨rfl, rfl, rfl, rfl⟩ := ha
    simp only [Nat.sub_self, Nat.add_zero] at kk
    exact lv_i2b hx hb hd rfl (kk _ _ _ hS)
  · cases ha

theorem jk_i2s (hC : Ctx b0 D cy p R s m args meth c y) (hS : Stt b0 D cy s y H locs ls L h) (hd : decode (bts y) pc = .ok (.i2s, 1)) (ha : sxx y pc (.i2s) L st h = aJ pc' L' st' h') (hrm : cells + (gX h' - gX h) ≤ R.cells ∧ slots + (gS h' - gS h) ≤ R.slots) (kk : ∀ (ls' : Array Slot) (H' : Heap) (locs' : List Loc), Stt b0 D cy s y H' locs' ls' L' h' → W p l e R s m args below meth c H' locs' (cells + (gX h' - gX h)) (slots + (gS h' - gS h)) Q (F0 m pc' ls' st')) : W p l e R s m args below meth c H locs cells slots Q (F0 m pc ls st) := by
  obtain ⟨hx, hb, hml, hown, hts, hb0, hK, hfr, hlo, hnm⟩ := hC
  simp only [sxx] at ha
  split at ha
  · simp only [aJ, Option.some.injEq, Sum.inr.injEq, Sum.inl.injEq, Prod.mk.injEq] at ha
    obtain ⟨rfl, rfl, rfl, rfl⟩ := ha
    simp only [Nat.sub_self, Nat.add_zero] at kk
    exact lv_i2s hx hb hd rfl (kk _ _ _ hS)
  · cases ha

theorem jk_i2c (hC : Ctx b0 D cy p R s m args meth c y) (hS : Stt b0 D cy s y H locs ls L h) (hd : decode (bts y) pc = .ok (.i2c, 1)) (ha : sxx y pc (.i2c) L st h = aJ pc' L' st' h') (hrm : cells + (gX h' - gX h) ≤ R.cells ∧ slots + (gS h' - gS h) ≤ R.slots) (kk : ∀ (ls' : Array Slot) (H' : Heap) (locs' : List Loc), Stt b0 D cy s y H' locs' ls' L' h' → W p l e R s m args below meth c H' locs' (cells + (gX h' - gX h)) (slots + (gS h' - gS h)) Q (F0 m pc' ls' st')) : W p l e R s m args below meth c H locs cells slots Q (F0 m pc ls st) := by
  obtain ⟨hx, hb, hml, hown, hts, hb0, hK, hfr, hlo, hnm⟩ := hC
  simp only [sxx] at ha
  split at ha
  · simp only [aJ, Option.some.injEq, Sum.inr.injEq, Sum.inl.injEq, Prod.mk.injEq] at ha
    obtain ⟨rfl, rfl, rfl, rfl⟩ := ha
    simp only [Nat.sub_self, Nat.add_zero] at kk
    exact lv_i2c hx hb hd rfl (kk _ _ _ hS)
  · cases ha

theorem jk_lshl (hC : Ctx b0 D cy p R s m args meth c y) (hS : Stt b0 D cy s y H locs ls L h) (hd : decode (bts y) pc = .ok (.lshl, 1)) (ha : sxx y pc (.lshl) L st h = aJ pc' L' st' h') (hrm : cells + (gX h' - gX h) ≤ R.cells ∧ slots + (gS h' - gS h) ≤ R.slots) (kk : ∀ (ls' : Array Slot) (H' : Heap) (locs' : List Loc), Stt b0 D cy s y H' locs' ls' L' h' → W p l e R s m args below meth c H' locs' (cells + (gX h' - gX h)) (slots + (gS h' - gS h)) Q (F0 m pc' ls' st')) : W p l e R s m args below meth c H locs cells slots Q (F0 m pc ls st) := by
  obtain ⟨hx, hb, hml, hown, hts, hb0, hK, hfr, hlo, hnm⟩ := hC
  simp only [sxx] at ha
  split at ha
  · simp only [aJ, Option.some.injEq, Sum.inr.injEq, Sum.inl.injEq, Prod.mk.injEq] at ha
    obtain ⟨rfl, rfl, rfl, rfl⟩ := ha
    simp only [Nat.sub_self, Nat.add_zero] at kk
    exact lv_lshl hx hb hd rfl (kk _ _ _ hS)
  · cases ha

theorem jk_lcmp (hC : Ctx b0 D cy p R s m args meth c y) (hS : Stt b0 D cy s y H locs ls L h) (hd : decode (bts y) pc = .ok (.lcmp, 1)) (ha : sxx y pc (.lcmp) L st h = aJ pc' L' st' h') (hrm : cells + (gX h' - gX h) ≤ R.cells ∧ slots + (gS h' - gS h) ≤ R.slots) (kk : ∀ (ls' : Array Slot) (H' : Heap) (locs' : List Loc), Stt b0 D cy s y H' locs' ls' L' h' → W p l e R s m args below meth c H' locs' (cells + (gX h' - gX h)) (slots + (gS h' - gS h)) Q (F0 m pc' ls' st')) : W p l e R s m args below meth c H locs cells slots Q (F0 m pc ls st) := by
  obtain ⟨hx, hb, hml, hown, hts, hb0, hK, hfr, hlo, hnm⟩ := hC
  simp only [sxx] at ha
  split at ha
  · simp only [aJ, Option.some.injEq, Sum.inr.injEq, Sum.inl.injEq, Prod.mk.injEq] at ha
    obtain ⟨rfl, rfl, rfl, rfl⟩ := ha
    simp only [Nat.sub_self, Nat.add_zero] at kk
    exact W.lcmp hx hb hd (kk _ _ _ hS)
  · cases ha

theorem jk_idiv (hC : Ctx b0 D cy p R s m args meth c y) (hS : Stt b0 D cy s y H locs ls L h) (hd : decode (bts y) pc = .ok (.idiv, 1)) (ha : sxx y pc (.idiv) L st h = aJ pc' L' st' h') (hrm : cells + (gX h' - gX h) ≤ R.cells ∧ slots + (gS h' - gS h) ≤ R.slots) (kk : ∀ (ls' : Array Slot) (H' : Heap) (locs' : List Loc), Stt b0 D cy s y H' locs' ls' L' h' → W p l e R s m args below meth c H' locs' (cells + (gX h' - gX h)) (slots + (gS h' - gS h)) Q (F0 m pc' ls' st')) : W p l e R s m args below meth c H locs cells slots Q (F0 m pc ls st) := by
  obtain ⟨hx, hb, hml, hown, hts, hb0, hK, hfr, hlo, hnm⟩ := hC
  simp only [sxx] at ha
  split at ha
  · split at ha
    · cases ha
    · rename_i hne
      simp only [aJ, Option.some.injEq, Sum.inr.injEq, Sum.inl.injEq, Prod.mk.injEq] at ha
      obtain ⟨rfl, rfl, rfl, rfl⟩ := ha
      simp only [Nat.sub_self, Nat.add_zero] at kk
      exact lv_idiv hx hb hd hne (kk _ _ _ hS)
  · cases ha

theorem jk_irem (hC : Ctx b0 D cy p R s m args meth c y) (hS : Stt b0 D cy s y H locs ls L h) (hd : decode (bts y) pc = .ok (.irem, 1)) (ha : sxx y pc (.irem) L st h = aJ pc' L' st' h') (hrm : cells + (gX h' - gX h) ≤ R.cells ∧ slots + (gS h' - gS h) ≤ R.slots) (kk : ∀ (ls' : Array Slot) (H' : Heap) (locs' : List Loc), Stt b0 D cy s y H' locs' ls' L' h' → W p l e R s m args below meth c H' locs' (cells + (gX h' - gX h)) (slots + (gS h' - gS h)) Q (F0 m pc' ls' st')) : W p l e R s m args below meth c H locs cells slots Q (F0 m pc ls st) := by
  obtain ⟨hx, hb, hml, hown, hts, hb0, hK, hfr, hlo, hnm⟩ := hC
  simp only [sxx] at ha
  split at ha
  · split at ha
    · cases ha
    · rename_i hne
      simp only [aJ, Option.some.injEq, Sum.inr.injEq, Sum.inl.injEq, Prod.mk.injEq] at ha
      obtain ⟨rfl, rfl, rfl, rfl⟩ := ha
      simp only [Nat.sub_self, Nat.add_zero] at kk
      exact lv_irem hx hb hd hne (kk _ _ _ hS)
  · cases ha

theorem jk_dup (hC : Ctx b0 D cy p R s m args meth c y) (hS : Stt b0 D cy s y H locs ls L h) (hd : decode (bts y) pc = .ok (.dup, 1)) (ha : sxx y pc (.dup) L st h = aJ pc' L' st' h') (hrm : cells + (gX h' - gX h) ≤ R.cells ∧ slots + (gS h' - gS h) ≤ R.slots) (kk : ∀ (ls' : Array Slot) (H' : Heap) (locs' : List Loc), Stt b0 D cy s y H' locs' ls' L' h' → W p l e R s m args below meth c H' locs' (cells + (gX h' - gX h)) (slots + (gS h' - gS h)) Q (F0 m pc' ls' st')) : W p l e R s m args below meth c H locs cells slots Q (F0 m pc ls st) := by
  obtain ⟨hx, hb, hml, hown, hts, hb0, hK, hfr, hlo, hnm⟩ := hC
  simp only [sxx] at ha
  split at ha
  · split at ha
    · rename_i hne
      simp only [aJ, Option.some.injEq, Sum.inr.injEq, Sum.inl.injEq, Prod.mk.injEq] at ha
      obtain ⟨rfl, rfl, rfl, rfl⟩ := ha
      simp only [Nat.sub_self, Nat.add_zero] at kk
      exact lv_dup hx hb hd hne (kk _ _ _ hS)
    · cases ha
  · cases ha

theorem jk_pop (hC : Ctx b0 D cy p R s m args meth c y) (hS : Stt b0 D cy s y H locs ls L h) (hd : decode (bts y) pc = .ok (.pop, 1)) (ha : sxx y pc (.pop) L st h = aJ pc' L' st' h') (hrm : cells + (gX h' - gX h) ≤ R.cells ∧ slots + (gS h' - gS h) ≤ R.slots) (kk : ∀ (ls' : Array Slot) (H' : Heap) (locs' : List Loc), Stt b0 D cy s y H' locs' ls' L' h' → W p l e R s m args below meth c H' locs' (cells + (gX h' - gX h)) (slots + (gS h' - gS h)) Q (F0 m pc' ls' st')) : W p l e R s m args below meth c H locs cells slots Q (F0 m pc ls st) := by
  obtain ⟨hx, hb, hml, hown, hts, hb0, hK, hfr, hlo, hnm⟩ := hC
  simp only [sxx] at ha
  split at ha
  · split at ha
    · rename_i hne
      simp only [aJ, Option.some.injEq, Sum.inr.injEq, Sum.inl.injEq, Prod.mk.injEq] at ha
      obtain ⟨rfl, rfl, rfl, rfl⟩ := ha
      simp only [Nat.sub_self, Nat.add_zero] at kk
      exact lv_pop hx hb hd hne (kk _ _ _ hS)
    · cases ha
  · cases ha

theorem jk_dup_x1 (hC : Ctx b0 D cy p R s m args meth c y) (hS : Stt b0 D cy s y H locs ls L h) (hd : decode (bts y) pc = .ok (.dup_x1, 1)) (ha : sxx y pc (.dup_x1) L st h = aJ pc' L' st' h') (hrm : cells + (gX h' - gX h) ≤ R.cells ∧ slots + (gS h' - gS h) ≤ R.slots) (kk : ∀ (ls' : Array Slot) (H' : Heap) (locs' : List Loc), Stt b0 D cy s y H' locs' ls' L' h' → W p l e R s m args below meth c H' locs' (cells + (gX h' - gX h)) (slots + (gS h' - gS h)) Q (F0 m pc' ls' st')) : W p l e R s m args below meth c H locs cells slots Q (F0 m pc ls st) := by
  obtain ⟨hx, hb, hml, hown, hts, hb0, hK, hfr, hlo, hnm⟩ := hC
  simp only [sxx] at ha
  split at ha
  · split at ha
    · rename_i hne
      simp only [aJ, Option.some.injEq, Sum.inr.injEq, Sum.inl.injEq, Prod.mk.injEq] at ha
      obtain ⟨rfl, rfl, rfl, rfl⟩ := ha
      simp only [Nat.sub_self, Nat.add_zero] at kk
      exact lv_dup_x1 hx hb hd hne.1 hne.2 (kk _ _ _ hS)
    · cases ha
  · cases ha

theorem jk_dup2 (hC : Ctx b0 D cy p R s m args meth c y) (hS : Stt b0 D cy s y H locs ls L h) (hd : decode (bts y) pc = .ok (.dup2, 1)) (ha : sxx y pc (.dup2) L st h = aJ pc' L' st' h') (hrm : cells + (gX h' - gX h) ≤ R.cells ∧ slots + (gS h' - gS h) ≤ R.slots) (kk : ∀ (ls' : Array Slot) (H' : Heap) (locs' : List Loc), Stt b0 D cy s y H' locs' ls' L' h' → W p l e R s m args below meth c H' locs' (cells + (gX h' - gX h)) (slots + (gS h' - gS h)) Q (F0 m pc' ls' st')) : W p l e R s m args below meth c H locs cells slots Q (F0 m pc ls st) := by
  obtain ⟨hx, hb, hml, hown, hts, hb0, hK, hfr, hlo, hnm⟩ := hC
  simp only [sxx] at ha
  split at ha
  · split at ha
    · rename_i hne
      simp only [aJ, Option.some.injEq, Sum.inr.injEq, Sum.inl.injEq, Prod.mk.injEq] at ha
      obtain ⟨rfl, rfl, rfl, rfl⟩ := ha
      simp only [Nat.sub_self, Nat.add_zero] at kk
      exact lv_dup2_11 hx hb hd hne.1 hne.2 (kk _ _ _ hS)
    · cases ha
  · cases ha

theorem jk_iload_n {k : Fin 4} (hC : Ctx b0 D cy p R s m args meth c y) (hS : Stt b0 D cy s y H locs ls L h) (hd : decode (bts y) pc = .ok (.iload_n k, 1)) (ha : sxx y pc (.iload_n k) L st h = aJ pc' L' st' h') (hrm : cells + (gX h' - gX h) ≤ R.cells ∧ slots + (gS h' - gS h) ≤ R.slots) (kk : ∀ (ls' : Array Slot) (H' : Heap) (locs' : List Loc), Stt b0 D cy s y H' locs' ls' L' h' → W p l e R s m args below meth c H' locs' (cells + (gX h' - gX h)) (slots + (gS h' - gS h)) Q (F0 m pc' ls' st')) : W p l e R s m args below meth c H locs cells slots Q (F0 m pc ls st) := by
  obtain ⟨hx, hb, hml, hown, hts, hb0, hK, hfr, hlo, hnm⟩ := hC
  simp only [sxx] at ha
  split at ha
  · rename_i hl
    simp only [aJ, Option.some.injEq, Sum.inr.injEq, Sum.inl.injEq, Prod.mk.injEq] at ha
    obtain ⟨rfl, rfl, rfl, rfl⟩ := ha
    simp only [Nat.sub_self, Nat.add_zero] at kk
    exact lv_iload_n hx hb hd rfl (hS.1.at hl (by simp [un0])) (kk _ _ _ hS)
  · cases ha

theorem jk_iload {i : Nat} (hC : Ctx b0 D cy p R s m args meth c y) (hS : Stt b0 D cy s y H locs ls L h) (hd : decode (bts y) pc = .ok (.iload i, 2)) (ha : sxx y pc (.iload i) L st h = aJ pc' L' st' h') (hrm : cells + (gX h' - gX h) ≤ R.cells ∧ slots + (gS h' - gS h) ≤ R.slots) (kk : ∀ (ls' : Array Slot) (H' : Heap) (locs' : List Loc), Stt b0 D cy s y H' locs' ls' L' h' → W p l e R s m args below meth c H' locs' (cells + (gX h' - gX h)) (slots + (gS h' - gS h)) Q (F0 m pc' ls' st')) : W p l e R s m args below meth c H locs cells slots Q (F0 m pc ls st) := by
  obtain ⟨hx, hb, hml, hown, hts, hb0, hK, hfr, hlo, hnm⟩ := hC
  simp only [sxx] at ha
  split at ha
  · rename_i hl
    simp only [aJ, Option.some.injEq, Sum.inr.injEq, Sum.inl.injEq, Prod.mk.injEq] at ha
    obtain ⟨rfl, rfl, rfl, rfl⟩ := ha
    simp only [Nat.sub_self, Nat.add_zero] at kk
    exact lv_iload hx hb hd (hS.1.at hl (by simp [un0])) (kk _ _ _ hS)
  · cases ha

theorem jk_lload_n {k : Fin 4} (hC : Ctx b0 D cy p R s m args meth c y) (hS : Stt b0 D cy s y H locs ls L h) (hd : decode (bts y) pc = .ok (.lload_n k, 1)) (ha : sxx y pc (.lload_n k) L st h = aJ pc' L' st' h') (hrm : cells + (gX h' - gX h) ≤ R.cells ∧ slots + (gS h' - gS h) ≤ R.slots) (kk : ∀ (ls' : Array Slot) (H' : Heap) (locs' : List Loc), Stt b0 D cy s y H' locs' ls' L' h' → W p l e R s m args below meth c H' locs' (cells + (gX h' - gX h)) (slots + (gS h' - gS h)) Q (F0 m pc' ls' st')) : W p l e R s m args below meth c H locs cells slots Q (F0 m pc ls st) := by
  obtain ⟨hx, hb, hml, hown, hts, hb0, hK, hfr, hlo, hnm⟩ := hC
  simp only [sxx] at ha
  split at ha
  · rename_i hl
    simp only [aJ, Option.some.injEq, Sum.inr.injEq, Sum.inl.injEq, Prod.mk.injEq] at ha
    obtain ⟨rfl, rfl, rfl, rfl⟩ := ha
    simp only [Nat.sub_self, Nat.add_zero] at kk
    exact lv_lload_n hx hb hd rfl (hS.1.at hl (by simp [un0])) (kk _ _ _ hS)
  · cases ha

theorem jk_lload {i : Nat} (hC : Ctx b0 D cy p R s m args meth c y) (hS : Stt b0 D cy s y H locs ls L h) (hd : decode (bts y) pc = .ok (.lload i, 2)) (ha : sxx y pc (.lload i) L st h = aJ pc' L' st' h') (hrm : cells + (gX h' - gX h) ≤ R.cells ∧ slots + (gS h' - gS h) ≤ R.slots) (kk : ∀ (ls' : Array Slot) (H' : Heap) (locs' : List Loc), Stt b0 D cy s y H' locs' ls' L' h' → W p l e R s m args below meth c H' locs' (cells + (gX h' - gX h)) (slots + (gS h' - gS h)) Q (F0 m pc' ls' st')) : W p l e R s m args below meth c H locs cells slots Q (F0 m pc ls st) := by
  obtain ⟨hx, hb, hml, hown, hts, hb0, hK, hfr, hlo, hnm⟩ := hC
  simp only [sxx] at ha
  split at ha
  · rename_i hl
    simp only [aJ, Option.some.injEq, Sum.inr.injEq, Sum.inl.injEq, Prod.mk.injEq] at ha
    obtain ⟨rfl, rfl, rfl, rfl⟩ := ha
    simp only [Nat.sub_self, Nat.add_zero] at kk
    exact lv_lload hx hb hd (hS.1.at hl (by simp [un0])) (kk _ _ _ hS)
  · cases ha

theorem jk_aload_n {k : Fin 4} (hC : Ctx b0 D cy p R s m args meth c y) (hS : Stt b0 D cy s y H locs ls L h) (hd : decode (bts y) pc = .ok (.aload_n k, 1)) (ha : sxx y pc (.aload_n k) L st h = aJ pc' L' st' h') (hrm : cells + (gX h' - gX h) ≤ R.cells ∧ slots + (gS h' - gS h) ≤ R.slots) (kk : ∀ (ls' : Array Slot) (H' : Heap) (locs' : List Loc), Stt b0 D cy s y H' locs' ls' L' h' → W p l e R s m args below meth c H' locs' (cells + (gX h' - gX h)) (slots + (gS h' - gS h)) Q (F0 m pc' ls' st')) : W p l e R s m args below meth c H locs cells slots Q (F0 m pc ls st) := by
  obtain ⟨hx, hb, hml, hown, hts, hb0, hK, hfr, hlo, hnm⟩ := hC
  simp only [sxx] at ha
  split at ha
  · rename_i hl
    simp only [aJ, Option.some.injEq, Sum.inr.injEq, Sum.inl.injEq, Prod.mk.injEq] at ha
    obtain ⟨rfl, rfl, rfl, rfl⟩ := ha
    simp only [Nat.sub_self, Nat.add_zero] at kk
    exact lv_aload_n hx hb hd rfl (hS.1.at hl (by simp [un0])) (kk _ _ _ hS)
  · cases ha

theorem jk_aload {i : Nat} (hC : Ctx b0 D cy p R s m args meth c y) (hS : Stt b0 D cy s y H locs ls L h) (hd : decode (bts y) pc = .ok (.aload i, 2)) (ha : sxx y pc (.aload i) L st h = aJ pc' L' st' h') (hrm : cells + (gX h' - gX h) ≤ R.cells ∧ slots + (gS h' - gS h) ≤ R.slots) (kk : ∀ (ls' : Array Slot) (H' : Heap) (locs' : List Loc), Stt b0 D cy s y H' locs' ls' L' h' → W p l e R s m args below meth c H' locs' (cells + (gX h' - gX h)) (slots + (gS h' - gS h)) Q (F0 m pc' ls' st')) : W p l e R s m args below meth c H locs cells slots Q (F0 m pc ls st) := by
  obtain ⟨hx, hb, hml, hown, hts, hb0, hK, hfr, hlo, hnm⟩ := hC
  simp only [sxx] at ha
  split at ha
  · rename_i hl
    simp only [aJ, Option.some.injEq, Sum.inr.injEq, Sum.inl.injEq, Prod.mk.injEq] at ha
    obtain ⟨rfl, rfl, rfl, rfl⟩ := ha
    simp only [Nat.sub_self, Nat.add_zero] at kk
    exact lv_aload hx hb hd (hS.1.at hl (by simp [un0])) (kk _ _ _ hS)
  · cases ha

theorem jk_istore_n {k : Fin 4} (hC : Ctx b0 D cy p R s m args meth c y) (hS : Stt b0 D cy s y H locs ls L h) (hd : decode (bts y) pc = .ok (.istore_n k, 1)) (ha : sxx y pc (.istore_n k) L st h = aJ pc' L' st' h') (hrm : cells + (gX h' - gX h) ≤ R.cells ∧ slots + (gS h' - gS h) ≤ R.slots) (kk : ∀ (ls' : Array Slot) (H' : Heap) (locs' : List Loc), Stt b0 D cy s y H' locs' ls' L' h' → W p l e R s m args below meth c H' locs' (cells + (gX h' - gX h)) (slots + (gS h' - gS h)) Q (F0 m pc' ls' st')) : W p l e R s m args below meth c H locs cells slots Q (F0 m pc ls st) := by
  obtain ⟨hx, hb, hml, hown, hts, hb0, hK, hfr, hlo, hnm⟩ := hC
  simp only [sxx] at ha
  split at ha
  · split at ha
    · rename_i hg
      simp only [aJ, Option.some.injEq, Sum.inr.injEq, Sum.inl.injEq, Prod.mk.injEq] at ha
      obtain ⟨rfl, rfl, rfl, rfl⟩ := ha
      simp only [Nat.sub_self, Nat.add_zero] at kk
      obtain ⟨hL, hR, hSS, hCn⟩ := hS
      exact lv_istore_n hx hb hd rfl hL.has (gst_lt hg) rfl (fun ls9 h9 => kk _ _ _ ⟨hL.set1 hg rfl h9, hR, hSS, hCn⟩)
    · cases ha
  · cases ha

theorem jk_istore {i : Nat} (hC : Ctx b0 D cy p R s m args meth c y) (hS : Stt b0 D cy s y H locs ls L h) (hd : decode (bts y) pc = .ok (.istore i, 2)) (ha : sxx y pc (.istore i) L st h = aJ pc' L' st' h') (hrm : cells + (gX h' - gX h) ≤ R.cells ∧ slots + (gS h' - gS h) ≤ R.slots) (kk : ∀ (ls' : Array Slot) (H' : Heap) (locs' : List Loc), Stt b0 D cy s y H' locs' ls' L' h' → W p l e R s m args below meth c H' locs' (cells + (gX h' - gX h)) (slots + (gS h' - gS h)) Q (F0 m pc' ls' st')) : W p l e R s m args below meth c H locs cells slots Q (F0 m pc ls st) := by
  obtain ⟨hx, hb, hml, hown, hts, hb0, hK, hfr, hlo, hnm⟩ := hC
  simp only [sxx] at ha
  split at ha
  · split at ha
    · rename_i hg
      simp only [aJ, Option.some.injEq, Sum.inr.injEq, Sum.inl.injEq, Prod.mk.injEq] at ha
      obtain ⟨rfl, rfl, rfl, rfl⟩ := ha
      simp only [Nat.sub_self, Nat.add_zero] at kk
      obtain ⟨hL, hR, hSS, hCn⟩ := hS
      exact lv_istore hx hb hd hL.has (gst_lt hg) rfl (fun ls9 h9 => kk _ _ _ ⟨hL.set1 hg rfl h9, hR, hSS, hCn⟩)
    · cases ha
  · cases ha

theorem jk_astore_n {k : Fin 4} (hC : Ctx b0 D cy p R s m args meth c y) (hS : Stt b0 D cy s y H locs ls L h) (hd : decode (bts y) pc = .ok (.astore_n k, 1)) (ha : sxx y pc (.astore_n k) L st h = aJ pc' L' st' h') (hrm : cells + (gX h' - gX h) ≤ R.cells ∧ slots + (gS h' - gS h) ≤ R.slots) (kk : ∀ (ls' : Array Slot) (H' : Heap) (locs' : List Loc), Stt b0 D cy s y H' locs' ls' L' h' → W p l e R s m args below meth c H' locs' (cells + (gX h' - gX h)) (slots + (gS h' - gS h)) Q (F0 m pc' ls' st')) : W p l e R s m args below meth c H locs cells slots Q (F0 m pc ls st) := by
  obtain ⟨hx, hb, hml, hown, hts, hb0, hK, hfr, hlo, hnm⟩ := hC
  simp only [sxx] at ha
  split at ha
  · split at ha
    · rename_i hg
      simp only [aJ, Option.some.injEq, Sum.inr.injEq, Sum.inl.injEq, Prod.mk.injEq] at ha
      obtain ⟨rfl, rfl, rfl, rfl⟩ := ha
      simp only [Nat.sub_self, Nat.add_zero] at kk
      obtain ⟨hL, hR, hSS, hCn⟩ := hS
      exact lv_astore_n hx hb hd rfl hL.has (gst_lt hg) rfl (fun ls9 h9 => kk _ _ _ ⟨hL.set1 hg rfl h9, hR, hSS, hCn⟩)
    · cases ha
  · cases ha

theorem jk_astore {i : Nat} (hC : Ctx b0 D cy p R s m args meth c y) (hS : Stt b0 D cy s y H locs ls L h) (hd : decode (bts y) pc = .ok (.astore i, 2)) (ha : sxx y pc (.astore i) L st h = aJ pc' L' st' h') (hrm : cells + (gX h' - gX h) ≤ R.cells ∧ slots + (gS h' - gS h) ≤ R.slots) (kk : ∀ (ls' : Array Slot) (H' : Heap) (locs' : List Loc), Stt b0 D cy s y H' locs' ls' L' h' → W p l e R s m args below meth c H' locs' (cells + (gX h' - gX h)) (slots + (gS h' - gS h)) Q (F0 m pc' ls' st')) : W p l e R s m args below meth c H locs cells slots Q (F0 m pc ls st) := by
  obtain ⟨hx, hb, hml, hown, hts, hb0, hK, hfr, hlo, hnm⟩ := hC
  simp only [sxx] at ha
  split at ha
  · split at ha
    · rename_i hg
      simp only [aJ, Option.some.injEq, Sum.inr.injEq, Sum.inl.injEq, Prod.mk.injEq] at ha
      obtain ⟨rfl, rfl, rfl, rfl⟩ := ha
      simp only [Nat.sub_self, Nat.add_zero] at kk
      obtain ⟨hL, hR, hSS, hCn⟩ := hS
      exact lv_astore hx hb hd hL.has (gst_lt hg) rfl (fun ls9 h9 => kk _ _ _ ⟨hL.set1 hg rfl h9, hR, hSS, hCn⟩)
    · cases ha
  · cases ha

theorem jk_lstore_n {k : Fin 4} (hC : Ctx b0 D cy p R s m args meth c y) (hS : Stt b0 D cy s y H locs ls L h) (hd : decode (bts y) pc = .ok (.lstore_n k, 1)) (ha : sxx y pc (.lstore_n k) L st h = aJ pc' L' st' h') (hrm : cells + (gX h' - gX h) ≤ R.cells ∧ slots + (gS h' - gS h) ≤ R.slots) (kk : ∀ (ls' : Array Slot) (H' : Heap) (locs' : List Loc), Stt b0 D cy s y H' locs' ls' L' h' → W p l e R s m args below meth c H' locs' (cells + (gX h' - gX h)) (slots + (gS h' - gS h)) Q (F0 m pc' ls' st')) : W p l e R s m args below meth c H locs cells slots Q (F0 m pc ls st) := by
  obtain ⟨hx, hb, hml, hown, hts, hb0, hK, hfr, hlo, hnm⟩ := hC
  simp only [sxx] at ha
  split at ha
  · split at ha
    · rename_i hg
      simp only [aJ, Option.some.injEq, Sum.inr.injEq, Sum.inl.injEq, Prod.mk.injEq] at ha
      obtain ⟨rfl, rfl, rfl, rfl⟩ := ha
      simp only [Nat.sub_self, Nat.add_zero] at kk
      obtain ⟨hL, hR, hSS, hCn⟩ := hS
      exact lv_lstore_n hx hb hd rfl hL.has (gsl_lt hg) rfl (fun ls9 h9 => kk _ _ _ ⟨hL.set2 hg h9, hR, hSS, hCn⟩)
    · cases ha
  · cases ha

theorem jk_iinc {i : Nat} {n : Int} (hC : Ctx b0 D cy p R s m args meth c y) (hS : Stt b0 D cy s y H locs ls L h) (hd : decode (bts y) pc = .ok (.iinc i n, 3)) (ha : sxx y pc (.iinc i n) L st h = aJ pc' L' st' h') (hrm : cells + (gX h' - gX h) ≤ R.cells ∧ slots + (gS h' - gS h) ≤ R.slots) (kk : ∀ (ls' : Array Slot) (H' : Heap) (locs' : List Loc), Stt b0 D cy s y H' locs' ls' L' h' → W p l e R s m args below meth c H' locs' (cells + (gX h' - gX h)) (slots + (gS h' - gS h)) Q (F0 m pc' ls' st')) : W p l e R s m args below meth c H locs cells slots Q (F0 m pc ls st) := by
  obtain ⟨hx, hb, hml, hown, hts, hb0, hK, hfr, hlo, hnm⟩ := hC
  simp only [sxx] at ha
  split at ha
  · rename_i hl
    split at ha
    · rename_i hg
      simp only [aJ, Option.some.injEq, Sum.inr.injEq, Sum.inl.injEq, Prod.mk.injEq] at ha
      obtain ⟨rfl, rfl, rfl, rfl⟩ := ha
      simp only [Nat.sub_self, Nat.add_zero] at kk
      obtain ⟨hL, hR, hSS, hCn⟩ := hS
      obtain ⟨k9, hk9⟩ := List.getElem?_of_mem (alo_mem.mpr ⟨hl, by simp [un0]⟩)
      exact lv_iinc hx hb hd hL.has hk9 rfl (gst_lt hg) rfl (fun ls9 h9 => kk _ _ _ ⟨hL.set1 hg rfl h9, hR, hSS, hCn⟩)
    · cases ha
  · cases ha

theorem jk_ldc {i : Nat} (hC : Ctx b0 D cy p R s m args meth c y) (hS : Stt b0 D cy s y H locs ls L h) (hd : decode (bts y) pc = .ok (.ldc i, 2)) (ha : sxx y pc (.ldc i) L st h = aJ pc' L' st' h') (hrm : cells + (gX h' - gX h) ≤ R.cells ∧ slots + (gS h' - gS h) ≤ R.slots) (kk : ∀ (ls' : Array Slot) (H' : Heap) (locs' : List Loc), Stt b0 D cy s y H' locs' ls' L' h' → W p l e R s m args below meth c H' locs' (cells + (gX h' - gX h)) (slots + (gS h' - gS h)) Q (F0 m pc' ls' st')) : W p l e R s m args below meth c H locs cells slots Q (F0 m pc ls st) := by
  obtain ⟨hx, hb, hml, hown, hts, hb0, hK, hfr, hlo, hnm⟩ := hC
  simp only [sxx] at ha
  split at ha
  · rename_i v hv
    simp only [aJ, Option.some.injEq, Sum.inr.injEq, Sum.inl.injEq, Prod.mk.injEq] at ha
    obtain ⟨rfl, rfl, rfl, rfl⟩ := ha
    simp only [Nat.sub_self, Nat.add_zero] at kk
    exact lv_ldc hx hb hown (hts _ (ci_link hv)) hd (kk _ _ _ hS)
  · split at ha
    · rename_i q hq
      simp only [aJ, Option.some.injEq, Sum.inr.injEq, Sum.inl.injEq, Prod.mk.injEq] at ha
      obtain ⟨rfl, rfl, rfl, rfl⟩ := ha
      simp only [Nat.sub_self, Nat.add_zero] at kk
      obtain ⟨a, e1, e2⟩ := hS.2.2.2.2.2.2.2.1 _ (tf_mem hq)
      have e1 : gR h 0 (200 + q.2) = some a := e1
      rw [e1] at kk
      exact va_ldcS hx hb hown e2 hd (kk _ _ _ hS)
    · cases ha

theorem jk_ldc_w {i : Nat} (hC : Ctx b0 D cy p R s m args meth c y) (hS : Stt b0 D cy s y H locs ls L h) (hd : decode (bts y) pc = .ok (.ldc_w i, 3)) (ha : sxx y pc (.ldc_w i) L st h = aJ pc' L' st' h') (hrm : cells + (gX h' - gX h) ≤ R.cells ∧ slots + (gS h' - gS h) ≤ R.slots) (kk : ∀ (ls' : Array Slot) (H' : Heap) (locs' : List Loc), Stt b0 D cy s y H' locs' ls' L' h' → W p l e R s m args below meth c H' locs' (cells + (gX h' - gX h)) (slots + (gS h' - gS h)) Q (F0 m pc' ls' st')) : W p l e R s m args below meth c H locs cells slots Q (F0 m pc ls st) := by
  obtain ⟨hx, hb, hml, hown, hts, hb0, hK, hfr, hlo, hnm⟩ := hC
  simp only [sxx] at ha
  split at ha
  · rename_i v hv
    simp only [aJ, Option.some.injEq, Sum.inr.injEq, Sum.inl.injEq, Prod.mk.injEq] at ha
    obtain ⟨rfl, rfl, rfl, rfl⟩ := ha
    simp only [Nat.sub_self, Nat.add_zero] at kk
    exact lv_ldcw hx hb hown (hts _ (ci_link hv)) hd (kk _ _ _ hS)
  · cases ha

theorem jk_ldc2_w {i : Nat} (hC : Ctx b0 D cy p R s m args meth c y) (hS : Stt b0 D cy s y H locs ls L h) (hd : decode (bts y) pc = .ok (.ldc2_w i, 3)) (ha : sxx y pc (.ldc2_w i) L st h = aJ pc' L' st' h') (hrm : cells + (gX h' - gX h) ≤ R.cells ∧ slots + (gS h' - gS h) ≤ R.slots) (kk : ∀ (ls' : Array Slot) (H' : Heap) (locs' : List Loc), Stt b0 D cy s y H' locs' ls' L' h' → W p l e R s m args below meth c H' locs' (cells + (gX h' - gX h)) (slots + (gS h' - gS h)) Q (F0 m pc' ls' st')) : W p l e R s m args below meth c H locs cells slots Q (F0 m pc ls st) := by
  obtain ⟨hx, hb, hml, hown, hts, hb0, hK, hfr, hlo, hnm⟩ := hC
  simp only [sxx] at ha
  split at ha
  · rename_i v hv
    simp only [aJ, Option.some.injEq, Sum.inr.injEq, Sum.inl.injEq, Prod.mk.injEq] at ha
    obtain ⟨rfl, rfl, rfl, rfl⟩ := ha
    simp only [Nat.sub_self, Nat.add_zero] at kk
    exact lv_ldc2 hx hb hown (hts _ (cj_link hv)) hd (kk _ _ _ hS)
  · cases ha

