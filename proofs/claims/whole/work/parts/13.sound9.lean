/-! growth; what moves along to a call; the locals at an entry; SOUNDNESS -/
def Gr (h h' : Hp) : Prop := gX h ≤ gX h' ∧ gS h ≤ gS h' ∧ ∀ a, a < gX h → gK h' a = gK h a ∧ gN h' a = gN h a
theorem Gr.rf (h : Hp) : Gr h h := ⟨Nat.le_refl _, Nat.le_refl _, fun _ _ => ⟨rfl, rfl⟩⟩
theorem Gr.tr {h1 h2 h3 : Hp} (a : Gr h1 h2) (b : Gr h2 h3) : Gr h1 h3 := ⟨Nat.le_trans a.1 b.1, Nat.le_trans a.2.1 b.2.1, fun q hq => by
  obtain ⟨e1, e2⟩ := a.2.2 q hq
  obtain ⟨f1, f2⟩ := b.2.2 q (Nat.lt_of_lt_of_le hq a.1)
  exact ⟨f1.trans e1, f2.trans e2⟩⟩
theorem Gr.i (h : Hp) (a k : Nat) (v : Int32) : Gr h (pI h a k v) := Gr.rf h
theorem Gr.j (h : Hp) (a k : Nat) (v : Int64) : Gr h (pJ h a k v) := Gr.rf h
theorem Gr.r (h : Hp) (a k : Nat) (v : Option Nat) : Gr h (pR h a k v) := Gr.rf h
theorem Gr.m1 (h : Hp) (K N n : Nat) : Gr h (mk1 h K N n) := ⟨by rw [gX_mk1]; omega, by rw [gS_mk1]; omega, fun a ha => ⟨mk1_K h K N n (Nat.ne_of_lt ha), mk1_N h K N n (Nat.ne_of_lt ha)⟩⟩
theorem Gr.m2 (h : Hp) (Ko Ki n k : Nat) : Gr h (mk2 h Ko Ki n k) := ⟨by rw [gX_mk2]; omega, by rw [gS_mk2]; omega, fun a ha => ⟨(mk2_old h Ko Ki n k (Or.inl ha)).1, (mk2_old h Ko Ki n k (Or.inl ha)).2.1⟩⟩
theorem Gr.c {P : Prop} [Decidable P] (h : Hp) (a sp d dp n : Nat) : Gr h (if P then cpI h a sp d dp n else cpJ h a sp d dp n) := by split <;> exact Gr.rf h
theorem acl_gr {y pc : Nat} {L st : List Value} {h : Hp} {q : Nat × Nat × Nat × Nat} {sp stt : Bool} {j : Jmp} (ha : acl y q sp stt L st h pc = some (.inr (.inl j))) : Gr h j.2.2.2 := by
  unfold acl at ha
  repeat' split at ha
  all_goals (try unfold aC2 at ha)
  all_goals (try split at ha)
  all_goals first
    | (simp only [aJ, Option.some.injEq, Sum.inr.injEq, Sum.inl.injEq] at ha; subst ha; first | exact Gr.rf _ | exact Gr.c _ _ _ _ _ _)
    | (simp [aJ, aC] at ha)
theorem act_gr {y pc : Nat} {L st : List Value} {h : Hp} {j : Jmp} (ha : act y pc L st h = some (.inr (.inl j))) : Gr h j.2.2.2 := by
  unfold act at ha
  split at ha
  · cases ha
  · rename_i ins len hd
    split at ha
    · cases ins with
      | putfield i =>
        simp only [sxx] at ha
        split at ha
        · split at ha
          · split at ha
            · rename_i h9 hp
              simp only [aJ, Option.some.injEq, Sum.inr.injEq, Sum.inl.injEq] at ha
              subst ha
              obtain ⟨-, -, -, -, hv⟩ := ptf_spec hp
              rcases hv with ⟨-, w, -, rfl⟩ | ⟨-, x, -, rfl, -⟩
              · exact Gr.r _ _ _ _
              · exact Gr.i _ _ _ _
            · cases ha
          · cases ha
        · cases ha
      | invokevirtual i =>
        simp only [sxx] at ha
        split at ha
        · exact acl_gr ha
        · cases ha
      | invokespecial i =>
        simp only [sxx] at ha
        split at ha
        · exact acl_gr ha
        · cases ha
      | invokestatic i =>
        simp only [sxx] at ha
        split at ha
        · exact acl_gr ha
        · cases ha
      | _ =>
        simp only [sxx] at ha
        repeat' split at ha
        all_goals first
          | (simp only [aJ, Option.some.injEq, Sum.inr.injEq, Sum.inl.injEq] at ha; subst ha; first | exact Gr.rf _ | exact Gr.i _ _ _ _ | exact Gr.j _ _ _ _ | exact Gr.r _ _ _ _ | exact Gr.m1 _ _ _ _ | exact Gr.m2 _ _ _ _ _)
          | (simp [aD] at ha)
          | cases ha
    · cases ha
theorem exec_gr : ∀ (n y pc : Nat) (L st : List Value) (h : Hp) (r : Option Value) (h' : Hp), exec n y pc L st h = some (r, h') → Gr h h' := by
  intro n
  induction n with
  | zero => intro y pc L st h r h' e; simp [exec] at e
  | succ n ih =>
    intro y pc L st h r h' e
    rw [exec] at e
    cases ha : act y pc L st h with
    | none => rw [ha] at e; simp at e
    | some a =>
      rw [ha] at e
      match a, ha, e with
      | .inl r9, ha, e => cases e; exact Gr.rf _
      | .inr (.inl q), ha, e => exact (act_gr ha).tr (ih _ _ _ _ _ _ _ e)
      | .inr (.inr q), ha, e =>
        dsimp only at e
        cases hb : exec n q.1 0 (eL q.1 q.2.1) [] h with
        | none => rw [hb] at e; simp at e
        | some z =>
          rw [hb] at e
          obtain ⟨z1, z2⟩ := z
          exact (ih _ _ _ _ _ _ _ hb).tr (ih _ _ _ _ _ _ _ e)
theorem V_gr {y pc : Nat} {L st : List Value} {h : Hp} {K : Option Value → Hp → Prop} (hv : V y pc L st h K) : V y pc L st h (fun r h' => K r h' ∧ Gr h h') := by
  obtain ⟨n, r, h', e, k⟩ := hv
  exact ⟨n, r, h', e, k, exec_gr _ _ _ _ _ _ _ _ e⟩
theorem nest_case {w : Jvm.Cond} (hw : w ∈ nestW) : (∃ a i b n d k, w = .fieldLinkNest a i b n d k) ∨ ∃ a i x k, w = .methodLinkNest a i x k := by
  have h := (List.mem_filter.mp hw).2
  cases w <;> simp at h
  · exact Or.inr ⟨_, _, _, _, rfl⟩
  · exact Or.inl ⟨_, _, _, _, _, _, rfl⟩
theorem ao_vm {ty : FieldType} {s U : State} (hv : U.vm = s.vm) : (Cond.arrayOver ty).before #[] U = (Cond.arrayOver ty).before #[] s := by
  simp only [Cond.before, Cond.holds, Cond.value, hv]
theorem ao_mv {ty : FieldType} {s U : State} (hA : s.vm.Alike U.vm) (h : (Cond.arrayOver ty).before #[] s = true) : (Cond.arrayOver ty).before #[] U = true := by
  rw [ao_vm (s := s.setVm U.vm) (U := U) rfl, Cond.arrayOver_setVmC hA]
  exact h
theorem Cn.warm {b0 : Nat} {s U : State} {Hs : Heap} {h : Hp} (hW : s.WarmedH U.vm) (C : Cn b0 s Hs h) : Cn b0 U Hs h := by
  obtain ⟨C1, C2, C3, C4, C5, C6, C7, C8, C9⟩ := C
  have hA := hW.alike
  refine ⟨fun i q hq => (C1 i q hq).moved hA, fun a ha => (C2 a ha).moved hA, fun a ha => (C3 a ha).moved hA, fun a ha => ⟨(C4 a ha).1.moved hA, (C4 a ha).2.1.moved hA, (C4 a ha).2.2.moved hA⟩, fun q hq => ?_, fun w hw => ?_, C7.moved hA, ?_, ?_⟩
  · obtain ⟨a, e1, e2⟩ := C5 q hq
    exact ⟨a, e1, e2.warm hW⟩
  · rcases nest_case hw with ⟨a, i, b, n, d, k, rfl⟩ | ⟨a, i, x, k, rfl⟩
    · exact va_Nw.warmF hW (C6 _ hw)
    · exact va_Nw.warmM hW (C6 _ hw)
  · exact ao_mv hA C8
  · exact ao_mv hA C9
theorem Cn.same {b0 : Nat} {s U : State} {Hs : Heap} {h : Hp} (hv : U.vm = s.vm) (C : Cn b0 s Hs h) : Cn b0 U Hs h := by
  obtain ⟨C1, C2, C3, C4, C5, C6, C7, C8, C9⟩ := C
  have hA : s.vm.Alike U.vm := by rw [hv]; exact Vm.Alike.refl _
  refine ⟨fun i q hq => (C1 i q hq).moved hA, fun a ha => (C2 a ha).moved hA, fun a ha => (C3 a ha).moved hA, fun a ha => ⟨(C4 a ha).1.moved hA, (C4 a ha).2.1.moved hA, (C4 a ha).2.2.moved hA⟩, fun q hq => ?_, fun w hw => ?_, C7.moved hA, ?_, ?_⟩
  · obtain ⟨a, e1, e2⟩ := C5 q hq
    exact ⟨a, e1, e2.same hv⟩
  · rcases nest_case hw with ⟨a, i, b, n, d, k, rfl⟩ | ⟨a, i, x, k, rfl⟩
    · exact va_Nw.same rfl hv.symm (C6 _ hw)
    · exact va_Nw.same rfl hv.symm (C6 _ hw)
  · exact ao_mv hA C8
  · exact ao_mv hA C9
theorem Cn.kept {b0 : Nat} {s : State} {Hs H1 : Heap} {h : Hp} (hq : ∀ a : Nat, a < Hs.size → ¬ b0 ≤ a → H1[a]? = Hs[a]?) (C : Cn b0 s Hs h) : Cn b0 s H1 h := by
  obtain ⟨C1, C2, C3, C4, C5, C6⟩ := C
  exact ⟨fun i q hq9 => (C1 i q hq9).kept hq, fun a ha => (C2 a ha).kept hq, fun a ha => (C3 a ha).kept hq, fun a ha => ⟨(C4 a ha).1.kept hq, (C4 a ha).2.1.kept hq, (C4 a ha).2.2.kept hq⟩, C5, C6⟩
def Ent (b0 : Nat) (D : va_G) (cy : Nat → ClassId) (U : State) (h : Hp) : Prop := b0 ≤ U.heap.size ∧ va_K D vwCl (tysO cy) U ∧ Rl b0 D cy U.heap h ∧ Cn b0 U U.heap h
theorem argL_sl : ∀ (vs : List Value) (i : Nat) (v : Value), (argL vs)[i]? = some v → v ≠ un0 → (lg_sl vs)[i]? = some (.val v) := by
  intro vs
  induction vs with
  | nil => intro i v h; simp [argL] at h
  | cons w vs ih =>
    intro i v h hv
    by_cases hc : w.category = 2
    · have e1 : argL (w :: vs) = w :: un0 :: argL vs := by simp [argL, hc]
      have e2 : lg_sl (w :: vs) = .val w :: .second :: lg_sl vs := by simp [lg_sl, hc]
      rw [e1] at h
      rw [e2]
      match i, h with
      | 0, h => cases h; rfl
      | 1, h => cases h; exact absurd rfl hv
      | i + 2, h => exact ih i v h hv
    · have e1 : argL (w :: vs) = w :: argL vs := by simp [argL, hc]
      have e2 : lg_sl (w :: vs) = .val w :: lg_sl vs := by simp [lg_sl, hc]
      rw [e1] at h
      rw [e2]
      match i, h with
      | 0, h => cases h; rfl
      | i + 1, h => exact ih i v h hv
theorem argL_len (vs : List Value) : (lg_sl vs).length = (argL vs).length := by
  induction vs with
  | nil => rfl
  | cons w vs ih =>
    by_cases hc : w.category = 2
    · have e1 : argL (w :: vs) = w :: un0 :: argL vs := by simp [argL, hc]
      have e2 : lg_sl (w :: vs) = .val w :: .second :: lg_sl vs := by simp [lg_sl, hc]
      rw [e1, e2]
      simp [ih]
    · have e1 : argL (w :: vs) = w :: argL vs := by simp [argL, hc]
      have e2 : lg_sl (w :: vs) = .val w :: lg_sl vs := by simp [lg_sl, hc]
      rw [e1, e2]
      simp [ih]
theorem lgo_at : ∀ (z : Nat) (vs : List Value) (k i : Nat) (v : Value), lgo z k vs = true → (argL vs)[i]? = some v → v.category = 2 → (lsl z).contains (k + i) = true := by
  intro z vs
  induction vs with
  | nil => intro k i v _ h; simp [argL] at h
  | cons w vs ih =>
    intro k i v hg h hv
    by_cases hc : w.category = 2
    · have e1 : argL (w :: vs) = w :: un0 :: argL vs := by simp [argL, hc]
      rw [e1] at h
      simp only [lgo, hc, if_true, Bool.and_eq_true] at hg
      match i, h with
      | 0, h => exact hg.1
      | 1, h => cases h; cases hv
      | i + 2, h =>
        have := ih (k + 2) i v hg.2 h hv
        rwa [show k + 2 + i = k + (i + 2) by omega] at this
    · have e1 : argL (w :: vs) = w :: argL vs := by simp [argL, hc]
      rw [e1] at h
      simp only [lgo, hc, if_false] at hg
      match i, h with
      | 0, h => cases h; exact absurd hv hc
      | i + 1, h =>
        have := ih (k + 1) i v hg h hv
        rwa [show k + 1 + i = k + (i + 1) by omega] at this
theorem LR_entry {z : Nat} {vs : List Value} (hg : ago z vs = true) : LR z ((lg_sl vs ++ List.replicate (mxl z - (lg_sl vs).length) Slot.unset).toArray) (eL z vs) := by
  simp only [ago, Bool.and_eq_true, decide_eq_true_eq] at hg
  have hlen : (lg_sl vs).length ≤ mxl z := by rw [argL_len]; exact hg.1
  have hl := lv_entry vs (n := mxl z) hlen
  refine ⟨hl.1, hl.2.1, fun i v hi hv => ?_, ?_, fun i v hi hv => ?_⟩
  · unfold eL at hi
    by_cases h1 : i < (argL vs).length
    · rw [List.getElem?_append_left h1] at hi
      have := argL_sl vs i v hi hv
      rw [List.getElem?_toArray, List.getElem?_append_left (by rw [argL_len]; exact h1)]
      exact this
    · rw [List.getElem?_append_right (by omega)] at hi
      have := List.mem_of_getElem? hi
      rw [List.mem_replicate] at this
      exact absurd this.2 hv
  · unfold eL
    rw [List.length_append, List.length_replicate]
    omega
  · unfold eL at hi
    by_cases h1 : i < (argL vs).length
    · rw [List.getElem?_append_left h1] at hi
      have := lgo_at z vs 0 i v hg.2 hi hv
      rwa [Nat.zero_add] at this
    · rw [List.getElem?_append_right (by omega)] at hi
      have := List.mem_of_getElem? hi
      rw [List.mem_replicate] at this
      rw [this.2] at hv
      cases hv
def wso (z : Nat) : List Jvm.Cond := Jvm.Cond.code (nmo z) (bts z) (mxl z) (rty z) :: gtb
theorem goodIn_gtb {ws : List Jvm.Cond} (h : ∀ w ∈ ws, w ∈ gtb) : GoodIn gtb ws := fun w hw => ⟨h w hw, good_of_word (List.all_eq_true.mp gtb_all w (h w hw))⟩
theorem wso_good {z : Nat} (hz : z < 251) : ∀ w ∈ wso z, w ∈ gtb := fun w hw => by
  rcases List.mem_cons.mp hw with e | e
  · rw [e]; exact ck_all z hz
  · exact e
theorem on_all : ∀ ci, ci < 7 → (cO ci).1 = onm ci := by decide +kernel
theorem cl_recv : clT.all (fun q => !(decide (q.2.1 = 0)) || (decide (ow q.2.2.1 < 7) || decide (onm (ow q.2.2.1) = "java/lang/String"))) = true := by decide +kernel
theorem nwi2 {p : Nat} {o : String} {i : Nat} {x : MethodName} {k : String} (h : lw_tbl[p]? = some (Jvm.Cond.methodLinkNest o i x k)) : Jvm.Cond.methodLinkNest o i x k ∈ nestW := List.mem_filter.mpr ⟨List.mem_of_getElem? h, rfl⟩
