/-! THE RELATION between the abstract heap and the machine's; the tables' words -/
def gtb : List Jvm.Cond := lw_tbl.filter goodWord
theorem gtb_of {w : Jvm.Cond} {i : Nat} (h1 : lw_tbl[i]? = some w) (h2 : goodWord w = true) : w ∈ gtb := List.mem_filter.mpr ⟨List.mem_of_getElem? h1, h2⟩
theorem gtb_in {w : Jvm.Cond} (h : w ∈ gtb) : w ∈ lw_tbl := (List.mem_filter.mp h).1
theorem gtb_all : gtb.all goodWord = true := List.all_eq_true.mpr (fun w h => (List.mem_filter.mp h).2)
def cO (ci : Nat) : vw_C := vwCl.getD ci (RX0, TX0, 17)
theorem cO_at : ∀ ci, ci < 7 → vwCl[ci]? = some (cO ci) := fun ci h => by
  unfold cO
  rw [List.getD_eq_getElem?_getD]
  have h1 : ci < vwCl.length := h
  rw [List.getElem?_eq_getElem h1]
  rfl
theorem cO_n : ∀ ci, ci < 7 → (cO ci).2.2 = nfo ci := by decide +kernel
def tyO (ci : Nat) : Nat → FieldType := match ci with
  | 0 => tyX0
  | 1 => tyX1
  | 2 => tyX2
  | 3 => tyX3
  | 4 => tyX4
  | 5 => tyX5
  | _ => tyX6
theorem tyO_ok : ∀ ci, ci < 7 → ∀ k, k < (cO ci).2.2 → parseFieldDescriptor ((cO ci).2.1 k).2.2.1 = some (tyO ci k) := by decide +kernel
theorem nmO_ok : ∀ ci, ci < 7 → ∀ a, a < (cO ci).2.2 → ∀ b, b < (cO ci).2.2 → a ≠ b → ((cO ci).2.1 a).2.1 ≠ ((cO ci).2.1 b).2.1 := by decide +kernel
theorem inO_1 : ∀ ci, ci < 7 → ∀ w ∈ u_ws (cO ci).1 (cO ci).2.1 (cO ci).2.2, w ∈ lw_tbl := by decide +kernel
theorem inO_2 : ∀ ci, ci < 7 → ∀ w ∈ u_ws (cO ci).1 (cO ci).2.1 (cO ci).2.2, goodWord w = true := by decide +kernel
theorem inO : ∀ ci, ci < 7 → ∀ w ∈ u_ws (cO ci).1 (cO ci).2.1 (cO ci).2.2, w ∈ gtb := fun ci h w hw => List.mem_filter.mpr ⟨inO_1 ci h w hw, inO_2 ci h w hw⟩
def isIT (t : FieldType) : Bool := match t with
  | .int => true
  | _ => false
def isBT (t : FieldType) : Bool := match t with
  | .boolean => true
  | _ => false
theorem isIT_eq {t : FieldType} (h : isIT t = true) : t = .int := by
  cases t <;> simp [isIT] at h ⊢
theorem isBT_eq {t : FieldType} (h : isBT t = true) : t = .boolean := by
  cases t <;> simp [isBT] at h ⊢
/-- each field's flags and kind, as the tables here have them -/
def fkB (ci k : Nat) : Bool := decide (((cO ci).2.1 k).2.2.2 = isf ci k) && decide (((cO ci).2.1 k).1 = onm ci) && (!(isr ci k) || (fits (tyO ci k) .null && fits (tyO ci k) (.ref 0))) && (isr ci k || (isIT (tyO ci k) || (decide (ci = 5) && isBT (tyO ci k))))
theorem fkB_ok : ∀ ci, ci < 7 → ∀ k, k < nfo ci → fkB ci k = true := by decide +kernel
theorem fkO (ci : Nat) (hci : ci < 7) (k : Nat) (hk : k < nfo ci) : ((cO ci).2.1 k).2.2.2 = isf ci k ∧ ((cO ci).2.1 k).1 = onm ci ∧ (isr ci k = true → fits (tyO ci k) .null = true ∧ fits (tyO ci k) (.ref 0) = true) ∧ (isr ci k = false → tyO ci k = .int ∨ (ci = 5 ∧ tyO ci k = .boolean)) := by
  have h := fkB_ok ci hci k hk
  simp only [fkB, Bool.and_eq_true, Bool.or_eq_true, Bool.not_eq_true', decide_eq_true_eq] at h
  obtain ⟨⟨⟨h1, h2⟩, h3⟩, h4⟩ := h
  refine ⟨h1, h2, fun hr => ?_, fun hr => ?_⟩
  · rcases h3 with q | q
    · rw [hr] at q; cases q
    · exact q
  · rcases h4 with q | q | q
    · rw [hr] at q; cases q
    · exact Or.inl (isIT_eq q)
    · exact Or.inr ⟨q.1, isBT_eq q.2⟩
def fdC (q : TbK × Nat × Nat × Nat) : Bool := if q.2.1 < 7 then (decide (lw_tbl[q.2.2.2]? = some (Jvm.Cond.fieldLink (onm q.1.1) q.1.2 ((cO q.2.1).2.1 q.2.2.1).1 ((cO q.2.1).2.1 q.2.2.1).2.1 ((cO q.2.1).2.1 q.2.2.1).2.2.1)))
  else decide (lw_tbl[q.2.2.2]? = some (Jvm.Cond.fieldLink (onm q.1.1) q.1.2 "java/lang/String" (if q.2.2.1 = 0 then "value" else "coder") (if q.2.2.1 = 0 then "[B" else "B")))
theorem fd_ok1 : fdT.all fdC = true := by decide +kernel
def scC (q : TbK × Nat × Nat × Nat) : Bool := match stT[q.2.1]? with
  | some w => if q.2.2.1 = 0 then decide (lw_tbl[q.2.2.2]? = some (Jvm.Cond.fieldLink (onm q.1.1) q.1.2 w.1 w.2.1 w.2.2.1)) else decide (lw_tbl[q.2.2.2]? = some (Jvm.Cond.fieldLinkNest (onm q.1.1) q.1.2 w.1 w.2.1 w.2.2.1 "BootSale"))
  | none => true
theorem sc_ok1 : scT.all scC = true := by decide +kernel
theorem tf_mem {α : Type} {T : List (TbK × α)} {o c : Nat} {x : α} (h : tfind T o c = some x) : ((o, c), x) ∈ T := by
  unfold tfind at h
  cases hq : T.find? (fun q => q.1.1 == o && q.1.2 == c) with
  | none => rw [hq] at h; simp at h
  | some q =>
    rw [hq] at h
    have h1 := List.mem_of_find?_eq_some hq
    have h2 := List.find?_some hq
    simp at h h2
    obtain ⟨⟨a, b⟩, z⟩ := q
    simp at h h2
    obtain ⟨rfl, rfl⟩ := h2
    subst h
    exact h1
def wsO (b0 n : Nat) (E : Nat → va_E) : va_W := (List.range n).map (fun k => (b0 + k, E (b0 + k)))
theorem wsO_len (b0 n : Nat) (E : Nat → va_E) : (wsO b0 n E).length = n := by simp [wsO]
theorem wsO_get {b0 n k : Nat} {E : Nat → va_E} (h : k < n) : (wsO b0 n E)[k]? = some (b0 + k, E (b0 + k)) := by
  simp [wsO, h]
theorem wsO_at {b0 n a : Nat} {E : Nat → va_E} (h1 : b0 ≤ a) (h2 : a < b0 + n) : (wsO b0 n E)[a - b0]? = some (a, E a) := by
  rw [wsO_get (by omega), show b0 + (a - b0) = a by omega]
theorem wsO_inv {b0 n k : Nat} {E : Nat → va_E} {q : Nat × va_E} (h : (wsO b0 n E)[k]? = some q) : k < n ∧ q = (b0 + k, E (b0 + k)) := by
  have h1 : k < n := by
    have := (List.getElem?_eq_some_iff.mp h).1
    rw [wsO_len] at this
    exact this
  rw [wsO_get h1] at h
  exact ⟨h1, (Option.some.inj h).symm⟩
theorem wsO_set {b0 n a : Nat} {E E' : Nat → va_E} {e : va_E} (h1 : b0 ≤ a) (h2 : a < b0 + n) (he : E' a = e) (ho : ∀ b, b ≠ a → E' b = E b) : (wsO b0 n E).set (a - b0) (a, e) = wsO b0 n E' := by
  apply List.ext_getElem?
  intro k
  by_cases hk : k < n
  · rw [wsO_get (E := E') hk]
    by_cases hka : k = a - b0
    · subst hka
      rw [List.getElem?_set_self (by rw [wsO_len]; exact hk), show b0 + (a - b0) = a by omega, he]
    · rw [List.getElem?_set_ne (Ne.symm hka), wsO_get hk, ho _ (by omega)]
  · rw [List.getElem?_eq_none (by rw [List.length_set, wsO_len]; omega), List.getElem?_eq_none (by rw [wsO_len]; omega)]
theorem wsO_push (b0 n : Nat) (E : Nat → va_E) : wsO b0 (n + 1) E = wsO b0 n E ++ [(b0 + n, E (b0 + n))] := by
  simp [wsO, List.range_succ]
theorem wsO_congr {b0 n : Nat} {E E' : Nat → va_E} (h : ∀ b, b0 ≤ b → b < b0 + n → E' b = E b) : wsO b0 n E' = wsO b0 n E := by
  apply List.map_congr_left
  intro k hk
  rw [h _ (by omega) (by have := List.mem_range.mp hk; omega)]
theorem wsO_D (b0 n : Nat) (E : Nat → va_E) : va_D (fun q => b0 ≤ q) (wsO b0 n E) := by
  refine ⟨fun i j p q hi hj hpq => ?_, fun k q hk => ?_⟩
  · obtain ⟨-, rfl⟩ := wsO_inv hi
    obtain ⟨-, rfl⟩ := wsO_inv hj
    have hpq : b0 + i = b0 + j := hpq
    omega
  · obtain ⟨-, rfl⟩ := wsO_inv hk
    exact Nat.le_add_right _ _
def tysO (cy : Nat → ClassId) : List (ClassId × FieldType) := [(cy 8, .int), (cy 9, .long), (cy 10, .boolean), (cy 11, .object "BootSale$Shelf"), (cy 12, .array .int), (cy 13, .array .long)]
def fls (ci : Nat) (fi : Nat → Int32) (fr : Nat → Option Nat) : List Value := (List.range (nfo ci)).map (fun k => if isr ci k = true then va_rf (fr k) else .int (fi k))
theorem fls_len (ci : Nat) (fi : Nat → Int32) (fr : Nat → Option Nat) : (fls ci fi fr).length = nfo ci := by simp [fls]
theorem fls_get {ci k : Nat} {fi : Nat → Int32} {fr : Nat → Option Nat} (h : k < nfo ci) : (fls ci fi fr)[k]? = some (if isr ci k = true then va_rf (fr k) else .int (fi k)) := by
  simp [fls, h]
theorem fls_setI {ci k : Nat} {fi : Nat → Int32} {fr : Nat → Option Nat} {v : Int32} (h : k < nfo ci) (hr : isr ci k = false) : (fls ci fi fr).set k (.int v) = fls ci (fun j => if j = k then v else fi j) fr := by
  apply List.ext_getElem?
  intro j
  by_cases hj : j < nfo ci
  · rw [fls_get hj]
    by_cases hk : j = k
    · subst hk
      rw [List.getElem?_set_self (by rw [fls_len]; exact hj), hr]
      simp
    · rw [List.getElem?_set_ne (Ne.symm hk), fls_get hj]
      simp [hk]
  · rw [List.getElem?_eq_none (by rw [List.length_set, fls_len]; omega), List.getElem?_eq_none (by rw [fls_len]; omega)]
theorem fls_setR {ci k : Nat} {fi : Nat → Int32} {fr : Nat → Option Nat} {v : Option Nat} (h : k < nfo ci) (hr : isr ci k = true) : (fls ci fi fr).set k (va_rf v) = fls ci fi (fun j => if j = k then v else fr j) := by
  apply List.ext_getElem?
  intro j
  by_cases hj : j < nfo ci
  · rw [fls_get hj]
    by_cases hk : j = k
    · subst hk
      rw [List.getElem?_set_self (by rw [fls_len]; exact hj), hr]
      simp
    · rw [List.getElem?_set_ne (Ne.symm hk), fls_get hj]
      simp [hk]
  · rw [List.getElem?_eq_none (by rw [List.length_set, fls_len]; omega), List.getElem?_eq_none (by rw [fls_len]; omega)]
/-- what stands at a cell -/
def eCl (cy : Nat → ClassId) (K N : Nat) (fi : Nat → Int32) (fj : Nat → Int64) (fr : Nat → Option Nat) : va_E :=
  if K ≤ 7 then .inr (K - 1, fls (K - 1) fi fr) else if K = 9 then .inl (cy 9, N, .inr (.inl fj)) else if K = 8 ∨ K = 10 then .inl (cy K, N, .inl fi) else .inl (cy K, N, .inr (.inr (.inr (.inr fr))))
def eOf (cy : Nat → ClassId) (h : Hp) (a : Nat) : va_E := eCl cy (gK h a) (gN h a) (gI h a) (gJ h a) (gR h a)
theorem eOf_congr {cy : Nat → ClassId} {h h' : Hp} {a : Nat} (h1 : gK h' a = gK h a) (h2 : gN h' a = gN h a) (h3 : gI h' a = gI h a) (h4 : gJ h' a = gJ h a) (h5 : gR h' a = gR h a) : eOf cy h' a = eOf cy h a := by
  unfold eOf
  rw [h1, h2, h3, h4, h5]
def nestW : List Jvm.Cond := lw_tbl.filter (fun w => match w with
  | .fieldLinkNest _ _ _ _ _ _ => true
  | .methodLinkNest _ _ _ _ => true
  | _ => false)
def aoI (s : State) : Prop := (Cond.arrayOver (.array .int)).before #[] s = true
def aoJ (s : State) : Prop := (Cond.arrayOver (.array .long)).before #[] s = true
/-- what the Statement gives of statics, tables, texts; at the heap Hs -/
def Cn (b0 : Nat) (s : State) (Hs : Heap) (h : Hp) : Prop :=
  (∀ (i : Nat) (q : String × String × String × Bool), stT[i]? = some q → va_Z q.1 q.2.1 q.2.2.1 (if q.2.2.2 = true then va_rf (gR h 0 (100 + i)) else .int (gI h 0 (6000 + i))) (fun q => b0 ≤ q) s Hs) ∧
  (∀ a, tbK (gK h a) = true → va_T .int a (gN h a) (fun j => .int (gI h a j)) (fun q => b0 ≤ q) s Hs) ∧
  (∀ a, btK (gK h a) = true → va_T .byte a (gN h a) (fun j => .int (gI h a j)) (fun q => b0 ≤ q) s Hs) ∧
  (∀ a, stK (gK h a) = true → va_O "java/lang/String" a (fun q => b0 ≤ q) s Hs ∧ va_OF "java/lang/String" "value" "[B" (va_rf (gR h a 5000)) a (fun q => b0 ≤ q) s Hs ∧ va_OF "java/lang/String" "coder" "B" (.int (gI h a 5001)) a (fun q => b0 ≤ q) s Hs) ∧
  (∀ q ∈ srT, ∃ a, gR h 0 (200 + q.2.2) = some a ∧ vk_R (onm q.1.1) q.1.2 q.2.1 a s) ∧
  (∀ w ∈ nestW, va_Nw w s) ∧ va_AO "BootSale$Shelf" s ∧ aoI s ∧ aoJ s
/-- the constant part of h' is that of h -/
def Cst (h h' : Hp) : Prop := (∀ j, 100 ≤ j → gR h' 0 j = gR h 0 j) ∧ (∀ j, 100 ≤ j → gI h' 0 j = gI h 0 j) ∧ (∀ a, 20 ≤ gK h' a → 20 ≤ gK h a) ∧ ∀ a, 20 ≤ gK h a → gK h' a = gK h a ∧ gN h' a = gN h a ∧ (∀ j, gI h' a j = gI h a j) ∧ (∀ j, gR h' a j = gR h a j)
theorem tbK20 {K : Nat} (h : tbK K = true) : 20 ≤ K := by
  simp only [tbK, Bool.and_eq_true, decide_eq_true_eq] at h
  omega
theorem stK20 {K : Nat} (h : stK K = true) : 20 ≤ K := by
  simp only [stK, Bool.and_eq_true, decide_eq_true_eq] at h
  omega
theorem btK20 {K : Nat} (h : btK K = true) : 20 ≤ K := by
  simp only [btK, Bool.and_eq_true, decide_eq_true_eq] at h
  omega
theorem Cst.rf (h : Hp) : Cst h h := ⟨fun _ _ => rfl, fun _ _ => rfl, fun _ q => q, fun _ _ => ⟨rfl, rfl, fun _ => rfl, fun _ => rfl⟩⟩
theorem Cst.tr {h1 h2 h3 : Hp} (a : Cst h1 h2) (b : Cst h2 h3) : Cst h1 h3 := by
  refine ⟨fun j hj => (b.1 j hj).trans (a.1 j hj), fun j hj => (b.2.1 j hj).trans (a.2.1 j hj), fun q hq => a.2.2.1 q (b.2.2.1 q hq), fun q hq => ?_⟩
  obtain ⟨e1, e2, e3, e4⟩ := a.2.2.2 q hq
  obtain ⟨f1, f2, f3, f4⟩ := b.2.2.2 q (by rw [e1]; exact hq)
  exact ⟨f1.trans e1, f2.trans e2, fun j => (f3 j).trans (e3 j), fun j => (f4 j).trans (e4 j)⟩
theorem Cn.cst {b0 : Nat} {s : State} {Hs : Heap} {h h' : Hp} (c : Cst h h') (C : Cn b0 s Hs h) : Cn b0 s Hs h' := by
  obtain ⟨c1, c2, c3, c4⟩ := c
  obtain ⟨C1, C2, C3, C4, C5, C6⟩ := C
  refine ⟨fun i q hq => ?_, fun a ha => ?_, fun a ha => ?_, fun a ha => ?_, fun q hq => ?_, C6⟩
  · rw [c1 _ (by omega), c2 _ (by omega)]
    exact C1 i q hq
  · have h0 := c3 a (tbK20 ha)
    obtain ⟨e1, e2, e3, e4⟩ := c4 a h0
    rw [e2]
    have := C2 a (by rw [← e1]; exact ha)
    simp only [e3]
    exact this
  · have h0 := c3 a (btK20 ha)
    obtain ⟨e1, e2, e3, e4⟩ := c4 a h0
    rw [e2]
    have := C3 a (by rw [← e1]; exact ha)
    simp only [e3]
    exact this
  · have h0 := c3 a (stK20 ha)
    obtain ⟨e1, e2, e3, e4⟩ := c4 a h0
    rw [e3, e4]
    exact C4 a (by rw [← e1]; exact ha)
  · rw [c1 _ (by omega)]
    exact C5 q hq
/-- the pool: all cells from b0 on are as h has them -/
def Rl (b0 : Nat) (D : va_G) (cy : Nat → ClassId) (H : Heap) (h : Hp) : Prop := va_P D vwCl (wsO b0 (gX h - b0) (eOf cy h)) H ∧ H.size = gX h ∧ b0 ≤ gX h ∧ 1 ≤ b0 ∧ (∀ a, 1 ≤ gK h a → gK h a ≤ 13 → b0 ≤ a ∧ a < gX h) ∧ (∀ a, b0 ≤ a → a < gX h → 1 ≤ gK h a ∧ gK h a ≤ 13) ∧ (∀ a, gX h ≤ a → gK h a = 0)
/-- the locals -/
def LR (y : Nat) (ls : Array Slot) (L : List Value) : Prop := ls.size = mxl y ∧ lv_wf ls ∧ (∀ (i : Nat) (v : Value), L[i]? = some v → v ≠ un0 → ls[i]? = some (.val v)) ∧ L.length = mxl y ∧ ∀ (i : Nat) (v : Value), L[i]? = some v → v.category = 2 → (lsl y).contains i = true
def alo (L : List Value) : List (Nat × Value) := (List.range L.length).filterMap (fun i => (L[i]?).bind (fun v => if v = un0 then none else some (i, v)))
theorem alo_mem {L : List Value} {i : Nat} {v : Value} : (i, v) ∈ alo L ↔ L[i]? = some v ∧ v ≠ un0 := by
  unfold alo
  rw [List.mem_filterMap]
  constructor
  · rintro ⟨k, hk, e⟩
    cases hv : L[k]? with
    | none => rw [hv] at e; simp at e
    | some w =>
      rw [hv] at e
      simp only [Option.bind_some] at e
      split at e
      · cases e
      · rename_i hw
        cases e
        exact ⟨hv, hw⟩
  · rintro ⟨h1, h2⟩
    refine ⟨i, List.mem_range.mpr (List.getElem?_eq_some_iff.mp h1).1, ?_⟩
    rw [h1]
    simp [h2]
theorem LR.has {y : Nat} {ls : Array Slot} {L : List Value} (h : LR y ls L) : lv_has ls (mxl y) (alo L) := ⟨h.1, h.2.1, fun q hq => by
  obtain ⟨i, v⟩ := q
  obtain ⟨h1, h2⟩ := alo_mem.mp hq
  exact h.2.2.1 i v h1 h2⟩
theorem LR.at {y i : Nat} {ls : Array Slot} {L : List Value} {v : Value} (h : LR y ls L) (hi : L[i]? = some v) (hv : v ≠ un0) : ls[i]? = some (.val v) := h.2.2.1 i v hi hv
theorem LR.set1 {y i : Nat} {ls ls' : Array Slot} {L : List Value} {v : Value} (h : LR y ls L) (hg : gst y i = true) (hv : v.category = 1) (h' : lv_has ls' (mxl y) ((i, v) :: (alo L).filter (fun q => !(q.1 == i) && !(q.1 + 1 == i && q.2.category == 2)))) : LR y ls' (L.set i v) := by
  obtain ⟨z1, z2, z3, z4, z5⟩ := h
  have hg2 : i < mxl y ∧ (lsl y).contains i = false ∧ ((1 ≤ i) → (lsl y).contains (i - 1) = false) := by
    simp only [gst, Bool.and_eq_true, Bool.not_eq_true', decide_eq_true_eq, Bool.and_eq_false_iff, decide_eq_false_iff_not] at hg
    refine ⟨hg.1.1, hg.1.2, fun h1 => ?_⟩
    rcases hg.2 with q | q
    · exact absurd h1 q
    · exact q
  refine ⟨h'.1, h'.2.1, fun j w hj hw => ?_, by rw [List.length_set]; exact z4, fun j w hj hw => ?_⟩
  · by_cases e : j = i
    · subst e
      rw [List.getElem?_set_self (by omega)] at hj
      cases hj
      exact h'.2.2 (j, v) List.mem_cons_self
    · rw [List.getElem?_set_ne (Ne.symm e)] at hj
      refine h'.2.2 (j, w) (List.mem_cons_of_mem _ (List.mem_filter.mpr ⟨alo_mem.mpr ⟨hj, hw⟩, ?_⟩))
      by_cases e2 : j + 1 = i
      · have : ¬ w.category = 2 := fun q => by
          have h1 := z5 j w hj q
          have h2 := hg2.2.2 (by omega)
          rw [show i - 1 = j by omega] at h2
          rw [h1] at h2
          cases h2
        simp [e, this]
      · simp [e, e2]
  · by_cases e : j = i
    · subst e
      rw [List.getElem?_set_self (by omega)] at hj
      cases hj
      rw [hv] at hw
      cases hw
    · rw [List.getElem?_set_ne (Ne.symm e)] at hj
      exact z5 j w hj hw
theorem LR.set2 {y i : Nat} {ls ls' : Array Slot} {L : List Value} {x : Int64} (h : LR y ls L) (hg : gsl y i = true) (h' : lv_has ls' (mxl y) ((i, .long x) :: (alo L).filter (fun q => !(q.1 == i) && (!(q.1 == i + 1) && !(q.1 + 1 == i && q.2.category == 2))))) : LR y ls' ((L.set i (.long x)).set (i + 1) un0) := by
  obtain ⟨z1, z2, z3, z4, z5⟩ := h
  have hg2 : i + 1 < mxl y ∧ (lsl y).contains i = true ∧ ((1 ≤ i) → (lsl y).contains (i - 1) = false) := by
    simp only [gsl, Bool.and_eq_true, Bool.not_eq_true', decide_eq_true_eq, Bool.and_eq_false_iff, decide_eq_false_iff_not] at hg
    refine ⟨hg.1.1.1, hg.1.1.2, fun h1 => ?_⟩
    rcases hg.2 with q | q
    · exact absurd h1 q
    · exact q
  refine ⟨h'.1, h'.2.1, fun j w hj hw => ?_, by rw [List.length_set, List.length_set]; exact z4, fun j w hj hw => ?_⟩
  · by_cases e1 : j = i + 1
    · subst e1
      rw [List.getElem?_set_self (by rw [List.length_set]; omega)] at hj
      cases hj
      exact absurd rfl hw
    · rw [List.getElem?_set_ne (Ne.symm e1)] at hj
      by_cases e : j = i
      · subst e
        rw [List.getElem?_set_self (by omega)] at hj
        cases hj
        exact h'.2.2 (j, _) List.mem_cons_self
      · rw [List.getElem?_set_ne (Ne.symm e)] at hj
        refine h'.2.2 (j, w) (List.mem_cons_of_mem _ (List.mem_filter.mpr ⟨alo_mem.mpr ⟨hj, hw⟩, ?_⟩))
        by_cases e2 : j + 1 = i
        · have : ¬ w.category = 2 := fun q => by
            have h1 := z5 j w hj q
            have h2 := hg2.2.2 (by omega)
            rw [show i - 1 = j by omega] at h2
            rw [h1] at h2
            cases h2
          simp [e, e1, this]
        · simp [e, e1, e2]
  · by_cases e1 : j = i + 1
    · subst e1
      rw [List.getElem?_set_self (by rw [List.length_set]; omega)] at hj
      cases hj
      cases hw
    · rw [List.getElem?_set_ne (Ne.symm e1)] at hj
      by_cases e : j = i
      · subst e
        exact hg2.2.1
      · rw [List.getElem?_set_ne (Ne.symm e)] at hj
        exact z5 j w hj hw
/-- what doesn't change in a method -/
def Ctx (b0 : Nat) (D : va_G) (cy : Nat → ClassId) (p : Program) (R : Room) (s : State) (m : MethodId) (args : Array Value) (meth : Method) (c : Code) (y : Nat) : Prop :=
  p.tables.exec = Jvm.exec ∧ c.code = bts y ∧ c.maxLocals = mxl y ∧ s.vm.findClass (onm (ow y)) = some m.cls ∧ (∀ w ∈ gtb, w.before args s = true) ∧ b0 ≤ s.heap.size ∧ va_K D vwCl (tysO cy) s ∧ frm y ≤ R.frames ∧ lom y ≤ R.locals ∧ ((nmo y).name = "<init>" → meth.name = "<init>")
/-- the state at an instruction -/
def Stt (b0 : Nat) (D : va_G) (cy : Nat → ClassId) (s : State) (y : Nat) (H : Heap) (locs : List Loc) (ls : Array Slot) (L : List Value) (h : Hp) : Prop :=
  LR y ls L ∧ Rl b0 D cy H h ∧ va_S (fun q => b0 ≤ q) s.heap H locs ∧ Cn b0 s s.heap h
