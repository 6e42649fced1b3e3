/-! THE CLAIM OUT OF ONE WALK OF THE LAW'S BODY. Your part is whole_start (and what it stands on); all else here is the same for every law, but numbers. -/
def R_law : String := "BootSaleLaw"
def lw_P (b : Addr) (xs : List Int32) (args : Array Value) (s : State) : Prop := args = #[.ref b] ∧ s.IntsAt b xs ∧ xs.length ≤ 3072 ∧ (Jvm.Cond.and given_1 narrow_1).before args s = true
def lw_Q (_ : Array Value) (s : State) (o : Outcome) (t : State) : Prop := o = .returned (some (.int 1)) ∧ Framed s o t [] 600000 7302249
def lw_Z (below : List Frame) (a : Array Value) (s : State) : State → Prop := fun t => ∃ o, t.status = .running ∧ Ended t below o ∧ lw_Q a s o t
/-- the law's own end, with 1 on the stack, nothing written that was there before, its room as the claim has it -/
theorem lw_ret {p : Program} {l : Launch} {e : Env} {s : State} {m : MethodId} {below : List Frame} {meth : Method} {c : Code} {b : Nat} (hx : p.tables.exec = Jvm.exec) (hb : c.code = code) (hr : meth.sig.returnType = ret) (hlocks : meth.locks = false) {pc : Nat} {H : Heap} {ls : Array Slot} (hdg : decode code pc = .ok (.ireturn, 1)) : W p l e room_1 s m #[Value.ref b] below meth c H [] 600000 7302249 (lw_Z below #[Value.ref b] s) (F0 m pc ls [.int 1]) := by
  intro T hT X
  obtain ⟨fs, hret, hrun, hended, hW, hframe⟩ := X.leave (v := some (.int 1)) (hlocks := hlocks) (fun h => by rw [hr] at h; cases h)
  have hmeth' : T.vm.method? m = some meth := X.method'
  refine ⟨T.setFrames fs, ?_, .returned (some (.int 1)), hrun, hended, rfl, ⟨_, rfl⟩, hW, hframe⟩
  jvm_step X.here [X.here.top, hx, hb, hdg, hmeth', hr, ret, narrow_b1]
  (try refine ⟨rfl, ?_⟩); (try refine ⟨rfl, ?_⟩)
  first | (intro acts; rw [hret _ acts rfl rfl rfl]) | rw [hret _ _ rfl rfl rfl]
  exact Steps.refl _
/-- what holds at the law's entry: the machine, the code, the tables' words (any of lw_tbl by 'hts w (by decide +kernel)'), the script of L ints xs at the cell b, what the Statement gives of the start (any of its parts by flat_of_before) -/
def lw_At (p : Program) (s : State) (m : MethodId) (meth : Method) (c : Code) (b L : Nat) (xs : Nat → Int32) : Prop :=
  p.tables.exec = Jvm.exec ∧ c.code = code ∧ meth.sig.returnType = ret ∧ c.maxLocals = 4 ∧ s.vm.findClass R_law = some m.cls ∧ (∀ w ∈ lw_tbl, w.before #[Value.ref b] s = true) ∧ va_X b L xs s s.heap ∧ b < s.heap.size ∧ meth.locks = false ∧ (Jvm.Cond.and given_1 narrow_1).before #[Value.ref b] s = true
/-! THE START: the abstract heap of the law's entry; whole_start out of the law's run over the abstract machine -/
def flatN : List Jvm.Cond := flatC (Jvm.Cond.and given_1 narrow_1)
def tabD : List (String × List Int32) := [("UNDER", [-1, 0, 0, 0, 1, 3]), ("TENTHS", [5, 6, 3, 2]), ("THING_LEAST", [0, 1, 1, 0, 0, 0, 0]), ("THING_MOST", [5, 99, 9, 99, 9, 99, 7]), ("BUYER_LEAST", [0, 0, 1]), ("BUYER_MOST", [6, 3, 99]), ("CHANGED", [1, 3, 5, 6]), ("SETTING_LEAST", [1, 0, 0, 0]), ("SETTING_MOST", [30, 14, 1, 9])]
theorem tab_in : ∀ q ∈ tabD, Cond.arrayOf (.static "BootSale" q.1 "[I") .int ∈ flatN ∧ Cond.eq (.length (.static "BootSale" q.1 "[I")) (.int (Int32.ofNat q.2.length)) ∈ flatN ∧ ∀ j, j < q.2.length → Cond.eq (.elem (.static "BootSale" q.1 "[I") (.int (Int32.ofNat j))) (.int (q.2.getD j 0)) ∈ flatN := by decide +kernel
/-- the bytes of the texts, by their entries -/
def strB (q : TbK × String × Nat) : List Int32 := q.2.1.toList.map (fun c => Int32.ofNat c.toNat)
def strTm (q : TbK × String × Nat) : Term := .string (onm q.1.1) q.1.2
theorem str_in : ∀ q ∈ srT, Cond.exactly (strTm q) "java/lang/String" ∈ flatN ∧ Cond.eq (.field (strTm q) "java/lang/String" "coder" "B") (.int 0) ∈ flatN ∧ Cond.arrayOf (.field (strTm q) "java/lang/String" "value" "[B") .byte ∈ flatN ∧ Cond.eq (.length (.field (strTm q) "java/lang/String" "value" "[B")) (.int (Int32.ofNat (strB q).length)) ∈ flatN ∧ ∀ j, j < (strB q).length → Cond.eq (.elem (.field (strTm q) "java/lang/String" "value" "[B") (.int (Int32.ofNat j))) (.int ((strB q).getD j 0)) ∈ flatN := by decide +kernel
theorem str_lk : ∀ q ∈ srT, Cond.stringRef (onm q.1.1) q.1.2 q.2.1 ∈ lw_tbl := by decide +kernel
theorem st_lk : ∀ q ∈ stT, Cond.laysStatic q.1 q.2.1 q.2.2.1 ∈ lw_tbl ∧ Cond.initialized q.1 ∈ lw_tbl := by decide +kernel
def stI : List (Nat × Int32) := [(9, 1), (11, 1), (12, 0), (13, 8)]
theorem st_int : ∀ q ∈ stI, ∀ w, stT[q.1]? = some w → Cond.eq (.static w.1 w.2.1 w.2.2.1) (.int q.2) ∈ flatN := by
  intro q hq w hw
  have h : ∀ q ∈ stI, (match stT[q.1]? with | some w => decide (Cond.eq (.static w.1 w.2.1 w.2.2.1) (.int q.2) ∈ flatN) | none => true) = true := by decide +kernel
  have h1 := h q hq
  rw [hw] at h1
  exact of_decide_eq_true h1
theorem st_ref : Cond.isRef (.static "jdk/internal/util/Preconditions" "SIOOBE_FORMATTER" "Ljava/util/function/BiFunction;") ∈ flatN := by decide +kernel
theorem str1 {args : Array Value} {s : State} {tm : Term} {len : Nat} {byt : List Int32} {A : Nat → Prop} (hN : len < 2 ^ 31) (hex : (Cond.exactly tm "java/lang/String").before args s = true) (hco : (Cond.eq (.field tm "java/lang/String" "coder" "B") (.int 0)).before args s = true) (har : (Cond.arrayOf (.field tm "java/lang/String" "value" "[B") .byte).before args s = true) (hle : (Cond.eq (.length (.field tm "java/lang/String" "value" "[B")) (.int (Int32.ofNat len))).before args s = true)
    (hel : ∀ j : Nat, j < len → (Cond.eq (.elem (.field tm "java/lang/String" "value" "[B") (.int (Int32.ofNat j))) (.int (byt.getD j 0))).before args s = true) (hA : ∀ a : Nat, a < s.heap.size → ¬ A a) :
    ∃ a v : Nat, tm.eval args s none [] s = some (.ref a) ∧ va_O "java/lang/String" a A s s.heap ∧ va_OF "java/lang/String" "coder" "B" (.int 0) a A s s.heap ∧ va_OF "java/lang/String" "value" "[B" (.ref v) a A s s.heap ∧ va_T .byte v len (fun j => .int (byt.getD j 0)) A s s.heap := by
  obtain ⟨a, c, cA, kA, q1, q2, q3, q4, q5, q6, -⟩ := Cond.exactly_spec (args := args) (first := s) (o := none) (s := s) (idx := []) (t := tm) (cls := "java/lang/String") hex
  obtain ⟨t, ht, hT⟩ := va_Tof (f := fun j => .int (byt.getD j 0)) (A := A) hN har (va_eqt hle) (fun j hj => va_eqt (hel j hj)) hA
  exact ⟨a, t, q1, ⟨cA, q3, q5, by rw [q6]; exact q2, hA a (Array.getElem?_eq_some_iff.mp q3).1⟩, vk_OFof q1 (va_eqt hco) hA, vk_OFof q1 ht hA, hT⟩
theorem va_OF.uniq {o n d : String} {v w : Value} {a : Nat} {A : Nat → Prop} {s : State} {H : Heap} (h1 : va_OF o n d v a A s H) (h2 : va_OF o n d w a A s H) : v = w := by
  obtain ⟨cf, k, i, f, cell, e1, -, e3, -, e5, -⟩ := h1
  obtain ⟨cf', k', i', f', cell', e1', -, e3', -, e5', -⟩ := h2
  cases e1.symm.trans e1'
  cases e3.symm.trans e3'
  exact Option.some.inj (e5.symm.trans e5')
/-- what the abstract heap of the start must tell -/
def CF (h : Hp) : Prop := ∀ j, j < 9 → ∃ a, gR h 0 (100 + j) = some a ∧ tbK (gK h a) = true ∧ gN h a = ((tabD.getD j ("", [])).2).length ∧ ∀ i, i < ((tabD.getD j ("", [])).2).length → gI h a i = ((tabD.getD j ("", [])).2).getD i 0
def SF (h : Hp) : Prop := gI h 0 6009 = 1 ∧ ∀ q ∈ srT, ∃ a v, gR h 0 (200 + q.2.2) = some a ∧ stK (gK h a) = true ∧ gI h a 5001 = 0 ∧ gR h a 5000 = some v ∧ btK (gK h v) = true ∧ gN h v = (strB q).length ∧ ∀ i, i < (strB q).length → gI h v i = (strB q).getD i 0
def Init (h : Hp) (b L : Nat) (xs : Nat → Int32) : Prop := 1 ≤ gX h ∧ b < gX h ∧ (∀ a, a < gX h → 20 ≤ gK h a) ∧ (∀ a, gX h ≤ a → gK h a = 0) ∧ gS h = 0 ∧ CF h ∧ SF h ∧ tbK (gK h b) = true ∧ gN h b = L ∧ ∀ j, j < L → gI h b j = xs j
section
noncomputable def z0I (s : State) (a j : Nat) : Int32 := if a = 0 ∧ 6000 ≤ j then ((stI.find? (fun q => 6000 + q.1 == j)).map (fun q => q.2)).getD 0 else if j = 5001 then 0 else match s.heap[a]? with
  | some ce => (match ce.slots[j]? with
    | some (.int x) => x
    | _ => 0)
  | none => 0
noncomputable def z0N (s : State) (a : Nat) : Nat := match s.heap[a]? with
  | some ce => ce.slots.size.toInt32.toNatClampNeg
  | none => 0
abbrev zA (s : State) : Nat → Prop := fun q => s.heap.size ≤ q
noncomputable def z0V (s : State) (a : Nat) : Option Nat := @dite _ (∃ v : Nat, va_OF "java/lang/String" "value" "[B" (.ref v) a (zA s) s s.heap) (Classical.propDecidable _) (fun h => some (Classical.choose h)) (fun _ => none)
noncomputable def z0R (s : State) (sr sa : Nat → Option Nat) (a j : Nat) : Option Nat := if a = 0 ∧ 100 ≤ j ∧ j < 114 then sr (j - 100) else if a = 0 ∧ 200 ≤ j ∧ j < 5000 then sa (j - 200) else if j = 5000 then z0V s a else none
def zT (s : State) (a : Nat) : Prop := va_T .int a (z0N s a) (fun j => .int (z0I s a j)) (zA s) s s.heap
def zB (s : State) (a : Nat) : Prop := va_T .byte a (z0N s a) (fun j => .int (z0I s a j)) (zA s) s s.heap
def zS (s : State) (a : Nat) : Prop := va_O "java/lang/String" a (zA s) s s.heap ∧ va_OF "java/lang/String" "value" "[B" (va_rf (z0V s a)) a (zA s) s s.heap ∧ va_OF "java/lang/String" "coder" "B" (.int 0) a (zA s) s s.heap
noncomputable def pbit (P : Prop) : Nat := @ite _ P (Classical.propDecidable _) 1 0
theorem pbit_t {P : Prop} (h : P) : pbit P = 1 := if_pos h
theorem pbit_le (P : Prop) : pbit P ≤ 1 := by
  unfold pbit
  split
  · exact Nat.le_refl 1
  · exact Nat.zero_le 1
theorem pbit_1 {P : Prop} (h : pbit P = 1) : P := by
  unfold pbit at h
  split at h
  · assumption
  · cases h
noncomputable def z0K (s : State) (a : Nat) : Nat := if a < s.heap.size then 20 + pbit (zT s a) + 2 * pbit (zS s a) + 4 * pbit (zB s a) else 0
noncomputable def z0H (s : State) (sr sa : Nat → Option Nat) : Hp := (z0I s, fun _ _ => 0, z0R s sr sa, z0K s, z0N s, s.heap.size, 0)
theorem z0K_t {s : State} {a : Nat} : tbK (z0K s a) = true ↔ a < s.heap.size ∧ zT s a := by
  unfold z0K tbK
  have h1 := pbit_le (zT s a)
  have h2 := pbit_le (zS s a)
  have h3 := pbit_le (zB s a)
  simp only [Bool.and_eq_true, decide_eq_true_eq]
  split
  · rename_i h
    constructor
    · intro q
      exact ⟨h, pbit_1 (by omega)⟩
    · intro q
      have := pbit_t q.2
      omega
  · rename_i h
    constructor
    · intro q
      omega
    · intro q
      exact absurd q.1 h
theorem z0K_s {s : State} {a : Nat} : stK (z0K s a) = true ↔ a < s.heap.size ∧ zS s a := by
  unfold z0K stK
  have h1 := pbit_le (zT s a)
  have h2 := pbit_le (zS s a)
  have h3 := pbit_le (zB s a)
  simp only [Bool.and_eq_true, decide_eq_true_eq]
  split
  · rename_i h
    constructor
    · intro q
      exact ⟨h, pbit_1 (by omega)⟩
    · intro q
      have := pbit_t q.2
      omega
  · rename_i h
    constructor
    · intro q
      omega
    · intro q
      exact absurd q.1 h
theorem z0K_b {s : State} {a : Nat} : btK (z0K s a) = true ↔ a < s.heap.size ∧ zB s a := by
  unfold z0K btK
  have h1 := pbit_le (zT s a)
  have h2 := pbit_le (zS s a)
  have h3 := pbit_le (zB s a)
  simp only [Bool.and_eq_true, decide_eq_true_eq]
  split
  · rename_i h
    constructor
    · intro q
      exact ⟨h, pbit_1 (by omega)⟩
    · intro q
      have := pbit_t q.2
      omega
  · rename_i h
    constructor
    · intro q
      omega
    · intro q
      exact absurd q.1 h
theorem z0_tab {s : State} {ty : FieldType} {t N : Nat} {f : Nat → Int32} (hN : N ≤ 3072) (h : va_T ty t N (fun j => .int (f j)) (zA s) s s.heap) : t < s.heap.size ∧ z0N s t = N ∧ (∀ j, j < N → z0I s t j = f j) ∧ va_T ty t (z0N s t) (fun j => .int (z0I s t j)) (zA s) s s.heap := by
  obtain ⟨cell, h1, h2, h3, h4, h5, h6, h7⟩ := h
  have hn : z0N s t = N := by
    unfold z0N
    rw [h1]
    show cell.slots.size.toInt32.toNatClampNeg = N
    rw [h5]
    exact Int32.toNatClampNeg_ofNat_of_lt (by omega)
  have hi : ∀ j, j < N → z0I s t j = f j := fun j hj => by
    unfold z0I
    rw [if_neg (by omega), if_neg (by omega), h1]
    dsimp only
    rw [h6 j hj]
  refine ⟨(Array.getElem?_eq_some_iff.mp h1).1, hn, hi, cell, h1, h2, h3, by rw [hn]; exact h4, by rw [hn]; exact h5, fun j hj => ?_, h7⟩
  rw [hn] at hj
  rw [h6 j hj]
  show some (Value.int (f j)) = some (Value.int (z0I s t j))
  rw [hi j hj]
theorem z0V_of {s : State} {a v : Nat} (h : va_OF "java/lang/String" "value" "[B" (.ref v) a (zA s) s s.heap) : z0V s a = some v := by
  unfold z0V
  rw [dif_pos ⟨v, h⟩]
  have h2 := Classical.choose_spec (p := fun v : Nat => va_OF "java/lang/String" "value" "[B" (.ref v) a (zA s) s s.heap) ⟨v, h⟩
  have h3 := va_OF.uniq h h2
  injection h3 with h4
  rw [← h4]
end
theorem whole_of (l : Launch) (hV : ∀ (h0 : Hp) (b L : Nat) (xs : Nat → Int32), L ≤ 3072 → Init h0 b L xs → V 251 0 [.ref b, un0, un0, un0] [] h0 (fun r h' => r = some (.int 1) ∧ gX h' ≤ gX h0 + 600000 ∧ gS h' ≤ 7302249))
    {p : Program} {e : Env} {s : State} {m : MethodId} {below : List Frame} {meth : Method} {c : Code} {b L : Nat} {xs : Nat → Int32} (hL : L ≤ 3072) (C0 : lw_At p s m meth c b L xs) : W p l e room_1 s m #[Value.ref b] below meth c s.heap [] 0 0 (lw_Z below #[Value.ref b] s) (entryFrame m ([Value.ref b] : List Value).toArray 4) := by
  obtain ⟨hx, hb, hr, hml, hown, hts, hX, hbl, hlocks, hgv⟩ := C0
  have hfl : ∀ w ∈ flatN, w.before #[Value.ref b] s = true := flat_of_before _ hgv
  have hA : ∀ a : Nat, a < s.heap.size → ¬ zA s a := fun a h1 h2 => absurd h1 (Nat.not_lt.mpr h2)
  -- tables
  have htab : ∀ j : Nat, ∃ t : Nat, j < 9 → (Term.static "BootSale" (tabD.getD j ("", [])).1 "[I").eval #[Value.ref b] s none [] s = some (.ref t) ∧ va_T .int t (tabD.getD j ("", [])).2.length (fun i => .int ((tabD.getD j ("", [])).2.getD i 0)) (zA s) s s.heap := by
    intro j
    by_cases hj : j < 9
    · have hm : tabD.getD j ("", []) ∈ tabD := by
        rw [List.getD_eq_getElem?_getD]
        have h1 : j < tabD.length := hj
        rw [List.getElem?_eq_getElem h1]
        exact List.getElem_mem h1
      obtain ⟨h1, h2, h3⟩ := tab_in _ hm
      have hlen : (tabD.getD j ("", [])).2.length < 2 ^ 31 := by
        have : ∀ q ∈ tabD, q.2.length < 2 ^ 31 := by decide +kernel
        exact this _ hm
      obtain ⟨t, h4, h5⟩ := va_Tof (f := fun i => .int ((tabD.getD j ("", [])).2.getD i 0)) (A := zA s) hlen (hfl _ h1) (va_eqt (hfl _ h2)) (fun i hi => va_eqt (hfl _ (h3 i hi))) hA
      exact ⟨t, fun _ => ⟨h4, h5⟩⟩
    · exact ⟨0, fun h => absurd h hj⟩
  obtain ⟨td, htd⟩ := Classical.axiomOfChoice htab
  -- texts
  have hstr : ∀ q : TbK × String × Nat, ∃ av : Nat × Nat, q ∈ srT → (strTm q).eval #[Value.ref b] s none [] s = some (.ref av.1) ∧ va_O "java/lang/String" av.1 (zA s) s s.heap ∧ va_OF "java/lang/String" "coder" "B" (.int 0) av.1 (zA s) s s.heap ∧ va_OF "java/lang/String" "value" "[B" (.ref av.2) av.1 (zA s) s s.heap ∧ va_T .byte av.2 (strB q).length (fun j => .int ((strB q).getD j 0)) (zA s) s s.heap := by
    intro q
    by_cases hq : q ∈ srT
    · obtain ⟨h1, h2, h3, h4, h5⟩ := str_in q hq
      have hlen : (strB q).length < 2 ^ 31 := by
        have : ∀ q ∈ srT, (strB q).length < 2 ^ 31 := by decide +kernel
        exact this _ hq
      obtain ⟨a, v, g⟩ := str1 (A := zA s) hlen (hfl _ h1) (hfl _ h2) (hfl _ h3) (hfl _ h4) (fun j hj => hfl _ (h5 j hj)) hA
      exact ⟨(a, v), fun _ => g⟩
    · exact ⟨(0, 0), fun h => absurd h hq⟩
  obtain ⟨sd, hsd⟩ := Classical.axiomOfChoice hstr
  -- the formatter: a reference or null
  have hfm : ∃ w : Option Nat, va_Z "jdk/internal/util/Preconditions" "SIOOBE_FORMATTER" "Ljava/util/function/BiFunction;" (va_rf w) (zA s) s s.heap := by
    have hl := st_lk ("jdk/internal/util/Preconditions", "SIOOBE_FORMATTER", "Ljava/util/function/BiFunction;", true) (by decide +kernel)
    rcases va_Zqof (hts _ hl.1) (hts _ hl.2) (hfl _ st_ref) hA with z | ⟨t, z⟩
    · exact ⟨none, z⟩
    · exact ⟨some t, z⟩
  obtain ⟨fm, hfm⟩ := hfm
  generalize hsr : (fun i : Nat => if i < 9 then some (td i) else if i = 10 then fm else none) = sr
  generalize hsa : (fun k : Nat => (srT.find? (fun q => q.2.2 == k)).map (fun q => (sd q).1)) = sa
  have hsaq : ∀ q ∈ srT, sa q.2.2 = some (sd q).1 := by
    intro q hq
    rw [← hsa]
    have key : ∀ q ∈ srT, (srT.find? (fun r => r.2.2 == q.2.2)) = some q := by decide +kernel
    dsimp only
    rw [key q hq]
    rfl
  have hspos : ∀ q ∈ srT, q.2.2 < 4000 := by decide +kernel
  have eR1 : ∀ i : Nat, i < 14 → gR (z0H s sr sa) 0 (100 + i) = sr i := fun i hi => by
    show z0R s sr sa 0 (100 + i) = _
    unfold z0R
    rw [if_pos ⟨rfl, by omega, by omega⟩, show 100 + i - 100 = i by omega]
  have eR2 : ∀ k : Nat, k < 4000 → gR (z0H s sr sa) 0 (200 + k) = sa k := fun k hk => by
    show z0R s sr sa 0 (200 + k) = _
    unfold z0R
    rw [if_neg (by omega), if_pos ⟨rfl, by omega, by omega⟩, show 200 + k - 200 = k by omega]
  have eR3 : ∀ a : Nat, gR (z0H s sr sa) a 5000 = z0V s a := fun a => by
    show z0R s sr sa a 5000 = _
    unfold z0R
    rw [if_neg (by omega), if_neg (by omega), if_pos rfl]
  have eI1 : ∀ a : Nat, gI (z0H s sr sa) a 5001 = 0 := fun a => by
    show z0I s a 5001 = 0
    unfold z0I
    rw [if_neg (by omega), if_pos rfl]
  have hbT := z0_tab (f := xs) hL (t := b) (ty := .int) (s := s) (by
    obtain ⟨scr, g1, g2, g3, g4, g5⟩ := hX
    exact ⟨scr, g1, g2, g3, by omega, by rw [g4], fun j hj => g5 j (by omega), hA b hbl⟩)
  have hinit : Init (z0H s sr sa) b L xs := by
    refine ⟨by show 1 ≤ s.heap.size; omega, hbl, fun a ha => ?_, fun a ha => ?_, rfl, fun j hj => ?_, ⟨?_, fun q hq => ?_⟩, z0K_t.mpr ⟨hbT.1, hbT.2.2.2⟩, hbT.2.1, hbT.2.2.1⟩
    · show 20 ≤ z0K s a
      unfold z0K
      rw [if_pos (show a < s.heap.size from ha)]
      omega
    · show z0K s a = 0
      unfold z0K
      rw [if_neg (show ¬ a < s.heap.size from Nat.not_lt.mpr ha)]
    · obtain ⟨g1, g2⟩ := htd j hj
      have hlen : ((tabD.getD j ("", [])).2).length ≤ 3072 := by
        have : ∀ j, j < 9 → ((tabD.getD j ("", [])).2).length ≤ 3072 := by decide +kernel
        exact this j hj
      have h9 := z0_tab (f := fun i => (tabD.getD j ("", [])).2.getD i 0) hlen g2
      refine ⟨td j, ?_, z0K_t.mpr ⟨h9.1, h9.2.2.2⟩, h9.2.1, h9.2.2.1⟩
      rw [eR1 j (by omega), ← hsr]
      dsimp only
      rw [if_pos hj]
    · show z0I s 0 6009 = 1
      unfold z0I
      rw [if_pos ⟨rfl, by omega⟩]
      decide +kernel
    · obtain ⟨g1, g2, g3, g4, g5⟩ := hsd q hq
      have hlen : (strB q).length ≤ 3072 := by
        have : ∀ q ∈ srT, (strB q).length ≤ 3072 := by decide +kernel
        exact this _ hq
      have h9 := z0_tab (f := fun i => (strB q).getD i 0) hlen g5
      have hv := z0V_of g4
      have hlt : (sd q).1 < s.heap.size := by
        obtain ⟨cell, k1, -⟩ := g2
        exact (Array.getElem?_eq_some_iff.mp k1).1
      refine ⟨(sd q).1, (sd q).2, ?_, z0K_s.mpr ⟨hlt, g2, by rw [hv]; exact g4, g3⟩, eI1 _, by rw [eR3]; exact hv, z0K_b.mpr ⟨h9.1, h9.2.2.2⟩, h9.2.1, h9.2.2.1⟩
      rw [eR2 _ (hspos q hq)]
      exact hsaq q hq
  obtain ⟨n, r, h', hex, rfl, hc, hs⟩ := hV (z0H s sr sa) b L xs hL hinit
  -- classes and arrays
  have hkn : ∀ ci : Nat, ∃ q : ClassId × (Nat → Nat), ci < 7 → u_Kn s (cO ci).1 (cO ci).2.1 (cO ci).2.2 q.1 q.2 := by
    intro ci
    by_cases hci : ci < 7
    · obtain ⟨cC, iS, g⟩ := u_known (C := (cO ci).1) (T := (cO ci).2.1) (N := (cO ci).2.2) hts (fun w hw => inO_1 ci hci w hw) (hts _ (gtb_in (in_link ci hci).1))
      exact ⟨(cC, iS), fun _ => g⟩
    · exact ⟨(0, fun _ => 0), fun h => absurd h hci⟩
  obtain ⟨kd, hkd⟩ := Classical.axiomOfChoice hkn
  obtain ⟨c8, k8, comp8, n8, q8, d8⟩ := Cond.arrayClass_spec (hts _ (gtb_in ac_link.1))
  obtain ⟨c9, k9, comp9, n9, q9, d9⟩ := Cond.arrayClass_spec (hts _ (gtb_in ac_link.2.1))
  obtain ⟨c10, k10, comp10, n10, q10, d10⟩ := Cond.arrayClass_spec (hts _ (gtb_in ac_link.2.2))
  have ao1 : Cond.arrayOver (.object "BootSale$Shelf") ∈ lw_tbl := by decide +kernel
  have ao2 : Cond.arrayOver (.array .int) ∈ lw_tbl := by decide +kernel
  have ao3 : Cond.arrayOver (.array .long) ∈ lw_tbl := by decide +kernel
  obtain ⟨comp11, c11, k11, m11, -, q11, d11, n11⟩ := Cond.arrayOver_spec (hts _ ao1)
  obtain ⟨comp12, c12, k12, m12, q12, d12, n12⟩ := Cond.arrayOver_specA (hts _ ao2)
  obtain ⟨comp13, c13, k13, m13, q13, d13, n13⟩ := Cond.arrayOver_specA (hts _ ao3)
  generalize hcy : (fun k : Nat => if k = 8 then c8 else if k = 9 then c9 else if k = 10 then c10 else if k = 11 then c11 else if k = 12 then c12 else c13) = cy
  have y8 : cy 8 = c8 := by rw [← hcy]; rfl
  have y9 : cy 9 = c9 := by rw [← hcy]; rfl
  have y10 : cy 10 = c10 := by rw [← hcy]; rfl
  have y11 : cy 11 = c11 := by rw [← hcy]; rfl
  have y12 : cy 12 = c12 := by rw [← hcy]; rfl
  have y13 : cy 13 = c13 := by rw [← hcy]; rfl
  have hK : va_K (fun k => (kd k).1, fun k => (kd k).2) vwCl (tysO cy) s := by
    refine ⟨fun ci q hq => ?_, fun k q hq => ?_⟩
    · have hci : ci < 7 := (List.getElem?_eq_some_iff.mp hq).1
      have e1 : q = cO ci := Option.some.inj (hq.symm.trans (cO_at ci hci))
      subst e1
      exact hkd ci hci
    · unfold tysO at hq
      rw [y8, y9, y10, y11, y12, y13] at hq
      match k, hq with
      | 0, hq => cases hq; exact ⟨fun n z => ⟨fun k h => (by cases h), k8, q8, comp8, d8⟩, n8⟩
      | 1, hq => cases hq; exact ⟨fun n z => ⟨fun k h => (by cases h), k9, q9, comp9, d9⟩, n9⟩
      | 2, hq => cases hq; exact ⟨fun n z => ⟨fun k h => (by cases h), k10, q10, comp10, d10⟩, n10⟩
      | 3, hq => cases hq; exact ⟨fun n z => ⟨fun k h => (by cases h), k11, q11, comp11, d11⟩, k11, comp11, q11, d11, m11, n11⟩
      | 4, hq => cases hq; exact ⟨fun n z => ⟨fun k h => (by cases h), k12, q12, comp12, d12⟩, n12⟩
      | 5, hq => cases hq; exact ⟨fun n z => ⟨fun k h => (by cases h), k13, q13, comp13, d13⟩, n13⟩
  have hCn : Cn s.heap.size s s.heap (z0H s sr sa) := by
    refine ⟨fun i q hq => ?_, fun a ha => (z0K_t.mp ha).2, fun a ha => (z0K_b.mp ha).2, fun a ha => ?_, fun q hq => ?_, fun w hw => ?_, hts _ ao1, hts _ ao2, hts _ ao3⟩
    · have hi : i < 14 := (List.getElem?_eq_some_iff.mp hq).1
      have hl := st_lk q (List.mem_of_getElem? hq)
      have hz : ∀ v, (Term.static q.1 q.2.1 q.2.2.1).eval #[Value.ref b] s none [] s = some v → va_Z q.1 q.2.1 q.2.2.1 v (zA s) s s.heap := fun v hv => va_Zof (hts _ hl.1) (hts _ hl.2) hv hA
      rw [eR1 i hi, ← hsr]
      dsimp only
      by_cases h9 : i < 9
      · have hw : ∀ i, i < 9 → stT[i]? = some ("BootSale", (tabD.getD i ("", [])).1, "[I", true) := by decide +kernel
        rw [hw i h9] at hq
        cases hq
        rw [if_pos rfl, if_pos h9]
        exact hz _ (htd i h9).1
      · rw [if_neg h9]
        by_cases h10 : i = 10
        · subst h10
          have hw : stT[10]? = some ("jdk/internal/util/Preconditions", "SIOOBE_FORMATTER", "Ljava/util/function/BiFunction;", true) := by decide +kernel
          rw [hw] at hq
          cases hq
          rw [if_pos rfl, if_pos rfl]
          exact hfm
        · have hfalse : q.2.2.2 = false := by
            have hw : ∀ i, i < 14 → ¬ i < 9 → ¬ i = 10 → (match stT[i]? with | some q => q.2.2.2 | none => false) = false := by decide +kernel
            have := hw i hi h9 h10
            rw [hq] at this
            exact this
          rw [hfalse, if_neg (by decide)]
          have hin : (i, gI (z0H s sr sa) 0 (6000 + i)) ∈ stI := by
            have hw : ∀ i, i < 14 → ¬ i < 9 → ¬ i = 10 → (i, ((stI.find? (fun q => 6000 + q.1 == 6000 + i)).map (fun q => q.2)).getD 0) ∈ stI := fun i h1 h2 h3 => by
              rcases (by omega : i = 9 ∨ i = 11 ∨ i = 12 ∨ i = 13) with rfl | rfl | rfl | rfl <;> first | decide +kernel | simp [stI]
            have h1 := hw i hi h9 h10
            have h2 : gI (z0H s sr sa) 0 (6000 + i) = ((stI.find? (fun q => 6000 + q.1 == 6000 + i)).map (fun q => q.2)).getD 0 := by
              show z0I s 0 (6000 + i) = _
              unfold z0I
              rw [if_pos ⟨rfl, by omega⟩]
            rw [h2]
            exact h1
          exact hz _ (va_eqi (hfl _ (st_int _ hin q hq)))
    · have h1 := (z0K_s.mp ha).2
      rw [eR3, eI1]
      exact ⟨h1.1, h1.2.1, h1.2.2⟩
    · refine ⟨(sd q).1, by rw [eR2 _ (hspos q hq)]; exact hsaq q hq, vk_R.of (A := #[Value.ref b]) (hts _ (str_lk q hq)) ?_⟩
      exact (hsd q hq).1
    · have hw2 : w ∈ lw_tbl := (List.mem_filter.mp hw).1
      rcases nest_case hw with ⟨a, i, bb, n, d, k, rfl⟩ | ⟨a, i, x, k, rfl⟩
      · exact va_Nw.of rfl (hts _ hw2)
      · exact va_Nw.of rfl (hts _ hw2)
  have hRl : Rl s.heap.size (fun k => (kd k).1, fun k => (kd k).2) cy s.heap (z0H s sr sa) := by
    have hz0 : ∀ a, ¬ (1 ≤ gK (z0H s sr sa) a ∧ gK (z0H s sr sa) a ≤ 13) := fun a h => by
      have h2 := h.2
      have h1 := h.1
      rcases Nat.lt_or_ge a s.heap.size with h3 | h3
      · have := hinit.2.2.1 a h3
        omega
      · have := hinit.2.2.2.1 a h3
        omega
    refine ⟨fun k q hq => ?_, rfl, Nat.le_refl _, by omega, fun a h1 h2 => absurd ⟨h1, h2⟩ (hz0 a), fun a h1 h2 => absurd h2 (Nat.not_lt.mpr h1), hinit.2.2.2.1⟩
    have := (wsO_inv hq).1
    have e : gX (z0H s sr sa) - s.heap.size = 0 := Nat.sub_self _
    omega
  rw [lg_entry_eq]
  have hent : Stt s.heap.size (fun k => (kd k).1, fun k => (kd k).2) cy s 251 s.heap [] ((lg_sl [.ref b] ++ List.replicate (4 - (lg_sl [.ref b]).length) Slot.unset).toArray) [.ref b, un0, un0, un0] (z0H s sr sa) := ⟨LR_entry (z := 251) (vs := [.ref b]) rfl, hRl, va_S.rf, hCn⟩
  have hctx : Ctx s.heap.size (fun k => (kd k).1, fun k => (kd k).2) cy p room_1 s m #[Value.ref b] meth c 251 := ⟨hx, hb, hml, hown, fun w hw => hts w (gtb_in hw), Nat.le_refl _, hK, by decide +kernel, by decide +kernel, fun h => absurd h (by decide +kernel)⟩
  have hg0 : gX (z0H s sr sa) = s.heap.size := rfl
  have hg1 : gS (z0H s sr sa) = 0 := rfl
  have hgr := exec_gr _ _ _ _ _ _ _ _ hex
  refine sound l s.heap.size _ cy n 251 0 _ [] (z0H s sr sa) _ h' hex p e room_1 s m #[Value.ref b] below meth c s.heap [] 0 0 _ _ hctx hent ⟨?_, ?_⟩ (fun pc' ls' H' locs' hRI hR' hS' => ?_)
  · show 0 + (gX h' - gX (z0H s sr sa)) ≤ 600000
    omega
  · show 0 + (gS h' - gS (z0H s sr sa)) ≤ 7302249
    omega
  · obtain ⟨hd, -⟩ := hRI
    refine va_forget (fun q hq => hS'.2.2 q hq) ?_
    refine W.widen (k := 600000) (n := 7302249) (by omega) (by omega) ?_
    exact lw_ret hx hb hr hlocks hd
