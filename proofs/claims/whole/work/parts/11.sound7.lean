variable {l : Launch} {b0 : Nat} {D : va_G} {cy : Nat → ClassId} {p : Program} {e : Env} {R : Room} {s : State} {m : MethodId} {args : Array Value} {below : List Frame} {meth : Method} {c : Code} {H : Heap} {locs : List Loc} {cells slots : Nat} {Q : State → Prop} {y pc pc' : Nat} {L L' st st' : List Value} {h h' : Hp} {ls : Array Slot}

theorem cats_eq (st : List Value) : (st.map fun v => v.category).sum = cats st := by
  induction st with
  | nil => rfl
  | cons v st ih => simp [cats, ih]
theorem lk_use {o i : Nat} {q : Nat × Nat × Nat × Nat} (hq : tfind clT o i = some q) : ∀ w ∈ lkW ((o, i), q), w ∈ gtb := lk_all _ (tf_mem hq)
theorem gX_cp {P : Prop} [Decidable P] (h : Hp) (a sp d dp n : Nat) : gX (if P then cpI h a sp d dp n else cpJ h a sp d dp n) = gX h := by split <;> rfl
theorem gS_cp {P : Prop} [Decidable P] (h : Hp) (a sp d dp n : Nat) : gS (if P then cpI h a sp d dp n else cpJ h a sp d dp n) = gS h := by split <;> rfl
/-- arraycopy of ints, of longs -/
theorem cpi_row {i a d : Nat} {sp dp n : Int32} {rest : List Value} (hx : p.tables.exec = Jvm.exec) (hb : c.code = bts y) (hml : c.maxLocals = ls.size) (hown : s.vm.findClass (onm (ow y)) = some m.cls) (hw : ∀ w ∈ [Cond.methodLink (onm (ow y)) i arraycopyName, .native arraycopyName, .static arraycopyName, .initialized "java/lang/System"], w.before args s = true) (hK : va_K D vwCl (tysO cy) s) (hR : Rl b0 D cy H h) (hSS : va_S (fun q => b0 ≤ q) s.heap H locs) (hL : LR y ls L) (hCn : Cn b0 s s.heap h)
    (ka : gK h a = gK h d) (kd : gK h d = 8 ∨ gK h d = 9) (h1 : ¬ sp < 0) (h2 : ¬ dp < 0) (h3 : ¬ n < 0) (h4 : sp.toNatClampNeg + n.toNatClampNeg ≤ gN h a) (h5 : dp.toNatClampNeg + n.toNatClampNeg ≤ gN h d) (hframes : 1 ≤ R.frames) (hlo : 40 ≤ R.locals) (hc : cats rest ≤ 8) (hd : decode (bts y) pc = .ok (.invokestatic i, 3))
    (kk : ∀ (H' : Heap) (locs' : List Loc), Stt b0 D cy s y H' locs' ls L (if gK h d = 8 then cpI h a sp.toNatClampNeg d dp.toNatClampNeg n.toNatClampNeg else cpJ h a sp.toNatClampNeg d dp.toNatClampNeg n.toNatClampNeg) → W p l e R s m args below meth c H' locs' cells slots Q (F0 m (pc + 3) ls rest)) : W p l e R s m args below meth c H locs cells slots Q (F0 m pc ls (.int n :: .int dp :: .ref d :: .int sp :: .ref a :: rest)) := by
  have nn : ∀ z : Int32, ¬ z < 0 → z.toInt = (z.toNatClampNeg : Int) := by
    intro z hz
    have hz0 : (0 : Int) ≤ z.toInt := by
      have := Int32.not_lt.mp hz
      simpa using Int32.le_iff_toInt_le.mp this
    show z.toInt = ((z.toInt.toNat : Nat) : Int)
    omega
  have hloc : 2 * (F0 m pc ls (.int n :: .int dp :: .ref d :: .int sp :: .ref a :: rest)).monitorRoom + (rest.map fun v => v.category).sum + (nativeFrameWords "java/lang/System" "arraycopy" 5 + 11) ≤ R.locals := by
    rw [cats_eq]
    have h9 : nativeFrameWords "java/lang/System" "arraycopy" 5 = 7 := by decide +kernel
    rw [h9]
    show 2 * 0 + _ + _ ≤ _
    omega
  have hl1 := hw _ List.mem_cons_self
  have hl2 := hw _ (List.mem_cons_of_mem _ List.mem_cons_self)
  have hl3 := hw _ (List.mem_cons_of_mem _ (List.mem_cons_of_mem _ List.mem_cons_self))
  have hl4 := hw _ (List.mem_cons_of_mem _ (List.mem_cons_of_mem _ (List.mem_cons_of_mem _ List.mem_cons_self)))
  have hda := hR.a0 (a := d) (by omega) (by omega)
  intro T hT X
  rcases kd with kd | kd
  · have ka8 : gK h a = 8 := ka.trans kd
    have hc0 : H[a]? = some (vp_cell (cy 8) (gN h a, .inl (gI h a))) := hR.ai ka8
    have hc1 : H[d]? = some (vp_cell (cy 8) (gN h d, .inl (gI h d))) := hR.ai kd
    obtain ⟨-, k0, hk0, cm0, hkk0⟩ := (hK.2 0 _ rfl).1 0 (fun _ => .null)
    obtain ⟨vm', X', step⟩ := X.arraycopy hx hown hl1 hl2 hl3 hl4 (src := a) (dst := d) (cs := vp_cell (cy 8) (gN h a, .inl (gI h a))) (cd := vp_cell (cy 8) (gN h d, .inl (gI h d))) (srcPos := sp) (destPos := dp) (n := n) (by rw [hT]; exact hc0) (by rw [hT]; exact hc1)
      (fun _ h => by cases h) (fun _ h => by cases h) (fun h => by cases h) (fun h => by cases h) hk0 hk0 hkk0 hkk0 (by rfl) h1 h2 h3
      (by rw [nn sp h1, nn n h3]; show ¬ _ > ((arrV (cy 8) (gN h a) (fun j => .int (gI h a j))).slots.size : Int); rw [arrV_size]; omega)
      (by rw [nn dp h2, nn n h3]; show ¬ _ > ((arrV (cy 8) (gN h d) (fun j => .int (gI h d j))).slots.size : Int); rw [arrV_size]; omega)
      (fun vm₁ _ i hi => by
        have e : (vp_cell (cy 8) (gN h a, .inl (gI h a))).slots.getD (sp.toNatClampNeg + i) .null = .int (gI h a (sp.toNatClampNeg + i)) := by
          show (arrV (cy 8) (gN h a) (fun j => .int (gI h a j))).slots.getD _ _ = _
          rw [Array.getD_eq_getD_getElem?, arrV_read _ _ (by omega)]
          rfl
        rw [e]
        exact ⟨rfl, trivial⟩)
      (g := F0 m pc ls (.int n :: .int dp :: .ref d :: .int sp :: .ref a :: rest)) rfl (by rw [hml]) (rest := rest) rfl (by rw [hb]; exact hd) hframes hloc
    have e1 : copied (vp_cell (cy 8) (gN h a, .inl (gI h a))) (vp_cell (cy 8) (gN h d, .inl (gI h d))) sp dp n = vp_cell (cy 8) (gN h d, .inl (va_cpy (gI h a) (gI h d) sp.toNatClampNeg dp.toNatClampNeg n.toNatClampNeg)) := va_copied (fun z => .int z) (cy 8) (cy 8) (gI h a) (gI h d) h4
    rw [e1] at X' step
    have hl : d < H.size := (Array.getElem?_eq_some_iff.mp hc1).1
    generalize hce : vp_cell (cy 8) (gN h d, .inl (va_cpy (gI h a) (gI h d) sp.toNatClampNeg dp.toNatClampNeg n.toNatClampNeg)) = ce at X' step
    have hheap : ((T.setVm vm').setCell d ce).heap = H.setIfInBounds d ce := by rw [← hT]; rfl
    have oq : ∀ q : Nat, q ≠ d → (H.setIfInBounds d ce)[q]? = H[q]? := fun q hq => by simp [Array.getElem?_setIfInBounds, Ne.symm hq]
    rw [if_pos kd] at kk
    have key : ∀ LL : List Loc, (∀ q ∈ LL, q.base = d) → Stt b0 D cy s y (H.setIfInBounds d ce) (locs ++ LL) ls L (cpI h a sp.toNatClampNeg d dp.toNatClampNeg n.toNatClampNeg) := by
      intro LL hLL
      refine ⟨hL, hR.upd (a := d) (by simp) oq ?_ ?_ rfl (fun _ => rfl), ⟨by simp; exact hSS.1, fun q g1 g2 => by
        rw [oq q (fun e => g2 (by rw [e]; exact hda.2.1))]
        exact hSS.2.1 q g1 g2, fun q hq => by
        rcases List.mem_append.mp hq with h | h
        · exact hSS.2.2 q h
        · rw [hLL q h]
          exact hda.2.1⟩, hCn.cst (cst_cpI hR (by omega) (by omega))⟩
      · have e9 : eOf cy (cpI h a sp.toNatClampNeg d dp.toNatClampNeg n.toNatClampNeg) d = .inl (cy 8, gN h d, .inl (va_cpy (gI h a) (gI h d) sp.toNatClampNeg dp.toNatClampNeg n.toNatClampNeg)) := by
          have hk' : gK (cpI h a sp.toNatClampNeg d dp.toNatClampNeg n.toNatClampNeg) d = 8 := kd
          have hi' : gI (cpI h a sp.toNatClampNeg d dp.toNatClampNeg n.toNatClampNeg) d = va_cpy (gI h a) (gI h d) sp.toNatClampNeg dp.toNatClampNeg n.toNatClampNeg := by
            funext j
            show (if d = d ∧ _ then _ else _) = _
            simp only [true_and]
            rfl
          unfold eOf eCl
          rw [hk', hi']
          rfl
        rw [e9]
        show (H.setIfInBounds d ce)[d]? = some _
        rw [hce]
        simp [Array.getElem?_setIfInBounds, hl]
      · intro b hb9
        exact eOf_congr rfl rfl (by funext j; show (if b = d ∧ _ then _ else _) = _; rw [if_neg (fun z => hb9 z.1)]; rfl) rfl rfl
    obtain ⟨t, a1, b1⟩ := kk (H.setIfInBounds d ce) _ (key _ (fun q hq => by
      obtain ⟨z, -, hz⟩ := List.mem_map.mp hq
      rw [← hz])) _ hheap X'
    exact ⟨t, step t a1, b1⟩
  · have ka8 : gK h a = 9 := ka.trans kd
    have hc0 : H[a]? = some (vp_cell (cy 9) (gN h a, .inr (.inl (gJ h a)))) := hR.aj ka8
    have hc1 : H[d]? = some (vp_cell (cy 9) (gN h d, .inr (.inl (gJ h d)))) := hR.aj kd
    obtain ⟨-, k0, hk0, cm0, hkk0⟩ := (hK.2 1 _ rfl).1 0 (fun _ => .null)
    obtain ⟨vm', X', step⟩ := X.arraycopy hx hown hl1 hl2 hl3 hl4 (src := a) (dst := d) (cs := vp_cell (cy 9) (gN h a, .inr (.inl (gJ h a)))) (cd := vp_cell (cy 9) (gN h d, .inr (.inl (gJ h d)))) (srcPos := sp) (destPos := dp) (n := n) (by rw [hT]; exact hc0) (by rw [hT]; exact hc1)
      (fun _ h => by cases h) (fun _ h => by cases h) (fun h => by cases h) (fun h => by cases h) hk0 hk0 hkk0 hkk0 (by rfl) h1 h2 h3
      (by rw [nn sp h1, nn n h3]; show ¬ _ > ((arrV (cy 9) (gN h a) (fun j => .long (gJ h a j))).slots.size : Int); rw [arrV_size]; omega)
      (by rw [nn dp h2, nn n h3]; show ¬ _ > ((arrV (cy 9) (gN h d) (fun j => .long (gJ h d j))).slots.size : Int); rw [arrV_size]; omega)
      (fun vm₁ _ i hi => by
        have e : (vp_cell (cy 9) (gN h a, .inr (.inl (gJ h a)))).slots.getD (sp.toNatClampNeg + i) .null = .long (gJ h a (sp.toNatClampNeg + i)) := by
          show (arrV (cy 9) (gN h a) (fun j => .long (gJ h a j))).slots.getD _ _ = _
          rw [Array.getD_eq_getD_getElem?, arrV_read _ _ (by omega)]
          rfl
        rw [e]
        exact ⟨rfl, trivial⟩)
      (g := F0 m pc ls (.int n :: .int dp :: .ref d :: .int sp :: .ref a :: rest)) rfl (by rw [hml]) (rest := rest) rfl (by rw [hb]; exact hd) hframes hloc
    have e1 : copied (vp_cell (cy 9) (gN h a, .inr (.inl (gJ h a)))) (vp_cell (cy 9) (gN h d, .inr (.inl (gJ h d)))) sp dp n = vp_cell (cy 9) (gN h d, .inr (.inl (va_cpy (gJ h a) (gJ h d) sp.toNatClampNeg dp.toNatClampNeg n.toNatClampNeg))) := va_copied (fun z => .long z) (cy 9) (cy 9) (gJ h a) (gJ h d) h4
    rw [e1] at X' step
    have hl : d < H.size := (Array.getElem?_eq_some_iff.mp hc1).1
    generalize hce : vp_cell (cy 9) (gN h d, .inr (.inl (va_cpy (gJ h a) (gJ h d) sp.toNatClampNeg dp.toNatClampNeg n.toNatClampNeg))) = ce at X' step
    have hheap : ((T.setVm vm').setCell d ce).heap = H.setIfInBounds d ce := by rw [← hT]; rfl
    have oq : ∀ q : Nat, q ≠ d → (H.setIfInBounds d ce)[q]? = H[q]? := fun q hq => by simp [Array.getElem?_setIfInBounds, Ne.symm hq]
    rw [if_neg (by omega)] at kk
    have key : ∀ LL : List Loc, (∀ q ∈ LL, q.base = d) → Stt b0 D cy s y (H.setIfInBounds d ce) (locs ++ LL) ls L (cpJ h a sp.toNatClampNeg d dp.toNatClampNeg n.toNatClampNeg) := by
      intro LL hLL
      refine ⟨hL, hR.upd (a := d) (by simp) oq ?_ ?_ rfl (fun _ => rfl), ⟨by simp; exact hSS.1, fun q g1 g2 => by
        rw [oq q (fun e => g2 (by rw [e]; exact hda.2.1))]
        exact hSS.2.1 q g1 g2, fun q hq => by
        rcases List.mem_append.mp hq with h | h
        · exact hSS.2.2 q h
        · rw [hLL q h]
          exact hda.2.1⟩, hCn.cst cst_cpJ⟩
      · have e9 : eOf cy (cpJ h a sp.toNatClampNeg d dp.toNatClampNeg n.toNatClampNeg) d = .inl (cy 9, gN h d, .inr (.inl (va_cpy (gJ h a) (gJ h d) sp.toNatClampNeg dp.toNatClampNeg n.toNatClampNeg))) := by
          have hk' : gK (cpJ h a sp.toNatClampNeg d dp.toNatClampNeg n.toNatClampNeg) d = 9 := kd
          have hi' : gJ (cpJ h a sp.toNatClampNeg d dp.toNatClampNeg n.toNatClampNeg) d = va_cpy (gJ h a) (gJ h d) sp.toNatClampNeg dp.toNatClampNeg n.toNatClampNeg := by
            funext j
            show (if d = d ∧ _ then _ else _) = _
            simp only [true_and]
            rfl
          unfold eOf eCl
          rw [hk', hi']
          rfl
        rw [e9]
        show (H.setIfInBounds d ce)[d]? = some _
        rw [hce]
        simp [Array.getElem?_setIfInBounds, hl]
      · intro b hb9
        exact eOf_congr rfl rfl rfl (by funext j; show (if b = d ∧ _ then _ else _) = _; rw [if_neg (fun z => hb9 z.1)]; rfl) rfl
    obtain ⟨t, a1, b1⟩ := kk (H.setIfInBounds d ce) _ (key _ (fun q hq => by
      obtain ⟨z, -, hz⟩ := List.mem_map.mp hq
      rw [← hz])) _ hheap X'
    exact ⟨t, step t a1, b1⟩

theorem bi_virtual {i : Nat} {q : Nat × Nat × Nat × Nat} (hC : Ctx b0 D cy p R s m args meth c y) (hS : Stt b0 D cy s y H locs ls L h) (hd : decode (bts y) pc = .ok (.invokevirtual i, 3)) (hq : tfind clT (ow y) i = some q) (ha : acl y q false false L st h pc = aJ pc' L' st' h') (hcc : cells ≤ R.cells) (hss : slots ≤ R.slots) (kk : ∀ (ls' : Array Slot) (H' : Heap) (locs' : List Loc), Stt b0 D cy s y H' locs' ls' L' h' → W p l e R s m args below meth c H' locs' (cells + (gX h' - gX h)) (slots + (gS h' - gS h)) Q (F0 m pc' ls' st')) : W p l e R s m args below meth c H locs cells slots Q (F0 m pc ls st) := by
  obtain ⟨hx, hb, hml, hown, hts, hb0, hK, hfr, hlo, hnm⟩ := hC
  obtain ⟨hL, hR, hSS, hCn⟩ := id hS
  have hmls : c.maxLocals = ls.size := hml.trans hL.1.symm
  have hws := lk_use hq
  unfold acl at ha
  split at ha
  · rename_i h6
    split at ha
    · rename_i hg
      split at ha
      · split at ha
        · rename_i hcat
          simp only [aJ, Option.some.injEq, Sum.inr.injEq, Sum.inl.injEq, Prod.mk.injEq] at ha
          obtain ⟨rfl, rfl, rfl, rfl⟩ := ha
          simp only [Nat.sub_self, Nat.add_zero] at kk
          exact absurd hg.1 (by decide)
        · simp [aJ] at ha
      · simp [aJ] at ha
    · simp [aJ] at ha
  · split at ha
    · rename_i h7
      split at ha
      · rename_i hg
        split at ha
        · split at ha
          · rename_i hcat
            simp only [aJ, Option.some.injEq, Sum.inr.injEq, Sum.inl.injEq, Prod.mk.injEq] at ha
            obtain ⟨rfl, rfl, rfl, rfl⟩ := ha
            obtain ⟨c1, c2, c3, c4, c5, c6, c7, c8⟩ := hcat
            exact absurd hg.1 (by decide)
          · simp [aJ] at ha
        · simp [aJ] at ha
      · simp [aJ] at ha
    · split at ha
      · rename_i h8
        split at ha
        · rename_i hg
          split at ha
          · split at ha
            · rename_i hcat
              simp only [aJ, Option.some.injEq, Sum.inr.injEq, Sum.inl.injEq, Prod.mk.injEq] at ha
              obtain ⟨rfl, rfl, rfl, rfl⟩ := ha
              simp only [Nat.sub_self, Nat.add_zero] at kk
              exact absurd hg.1 (by decide)
            · simp [aJ] at ha
          · simp [aJ] at ha
        · simp [aJ] at ha
      · split at ha
        · rename_i h9
          split at ha
          · rename_i hg
            split at ha
            · split at ha
              · rename_i hcat
                simp only [aJ, Option.some.injEq, Sum.inr.injEq, Sum.inl.injEq, Prod.mk.injEq] at ha
                obtain ⟨rfl, rfl, rfl, rfl⟩ := ha
                simp only [Nat.sub_self, Nat.add_zero] at kk
                exact absurd hg.1 (by decide)
              · simp [aJ] at ha
            · simp [aJ] at ha
          · simp [aJ] at ha
        · split at ha
          · split at ha
            · split at ha
              · unfold aC2 at ha
                split at ha <;> simp [aC, aJ] at ha
              · simp [aJ] at ha
            · split at ha
              · split at ha
                · split at ha
                  · unfold aC2 at ha
                    split at ha <;> simp [aC, aJ] at ha
                  · simp [aJ] at ha
                · simp [aJ] at ha
              · simp [aJ] at ha
          · simp [aJ] at ha

theorem bi_special {i : Nat} {q : Nat × Nat × Nat × Nat} (hC : Ctx b0 D cy p R s m args meth c y) (hS : Stt b0 D cy s y H locs ls L h) (hd : decode (bts y) pc = .ok (.invokespecial i, 3)) (hq : tfind clT (ow y) i = some q) (ha : acl y q true false L st h pc = aJ pc' L' st' h') (hcc : cells ≤ R.cells) (hss : slots ≤ R.slots) (kk : ∀ (ls' : Array Slot) (H' : Heap) (locs' : List Loc), Stt b0 D cy s y H' locs' ls' L' h' → W p l e R s m args below meth c H' locs' (cells + (gX h' - gX h)) (slots + (gS h' - gS h)) Q (F0 m pc' ls' st')) : W p l e R s m args below meth c H locs cells slots Q (F0 m pc ls st) := by
  obtain ⟨hx, hb, hml, hown, hts, hb0, hK, hfr, hlo, hnm⟩ := hC
  obtain ⟨hL, hR, hSS, hCn⟩ := id hS
  have hmls : c.maxLocals = ls.size := hml.trans hL.1.symm
  have hws := lk_use hq
  unfold acl at ha
  split at ha
  · rename_i h6
    split at ha
    · rename_i hg
      split at ha
      · split at ha
        · rename_i hcat
          simp only [aJ, Option.some.injEq, Sum.inr.injEq, Sum.inl.injEq, Prod.mk.injEq] at ha
          obtain ⟨rfl, rfl, rfl, rfl⟩ := ha
          simp only [Nat.sub_self, Nat.add_zero] at kk
          have hw : lkW ((ow y, i), q) = [.methodLink (onm (ow y)) i objectInit, .instanceMethod objectInit, .code objectInit ⟨#[0xb1]⟩ 1 none] := by
            unfold lkW
            rw [h6]
            rfl
          rw [hw] at hws
          exact W.objInit hx hb hown (hts _ (hws _ (by simp))) (hts _ (hws _ (by simp))) (hts _ (hws _ (by simp))) rfl hmls.symm rfl hd (by omega) (by rw [cats_eq]; show 2 * 0 + _ + 12 ≤ _; omega) (kk _ _ _ hS)
        · simp [aJ] at ha
      · simp [aJ] at ha
    · simp [aJ] at ha
  · split at ha
    · rename_i h7
      split at ha
      · rename_i hg
        split at ha
        · split at ha
          · rename_i hcat
            simp only [aJ, Option.some.injEq, Sum.inr.injEq, Sum.inl.injEq, Prod.mk.injEq] at ha
            obtain ⟨rfl, rfl, rfl, rfl⟩ := ha
            obtain ⟨c1, c2, c3, c4, c5, c6, c7, c8⟩ := hcat
            exact absurd hg.1 (by decide)
          · simp [aJ] at ha
        · simp [aJ] at ha
      · simp [aJ] at ha
    · split at ha
      · rename_i h8
        split at ha
        · rename_i hg
          split at ha
          · split at ha
            · rename_i hcat
              simp only [aJ, Option.some.injEq, Sum.inr.injEq, Sum.inl.injEq, Prod.mk.injEq] at ha
              obtain ⟨rfl, rfl, rfl, rfl⟩ := ha
              simp only [Nat.sub_self, Nat.add_zero] at kk
              exact absurd hg.1 (by decide)
            · simp [aJ] at ha
          · simp [aJ] at ha
        · simp [aJ] at ha
      · split at ha
        · rename_i h9
          split at ha
          · rename_i hg
            split at ha
            · split at ha
              · rename_i hcat
                simp only [aJ, Option.some.injEq, Sum.inr.injEq, Sum.inl.injEq, Prod.mk.injEq] at ha
                obtain ⟨rfl, rfl, rfl, rfl⟩ := ha
                simp only [Nat.sub_self, Nat.add_zero] at kk
                exact absurd hg.1 (by decide)
              · simp [aJ] at ha
            · simp [aJ] at ha
          · simp [aJ] at ha
        · split at ha
          · split at ha
            · split at ha
              · unfold aC2 at ha
                split at ha <;> simp [aC, aJ] at ha
              · simp [aJ] at ha
            · split at ha
              · split at ha
                · split at ha
                  · unfold aC2 at ha
                    split at ha <;> simp [aC, aJ] at ha
                  · simp [aJ] at ha
                · simp [aJ] at ha
              · simp [aJ] at ha
          · simp [aJ] at ha

theorem bi_static {i : Nat} {q : Nat × Nat × Nat × Nat} (hC : Ctx b0 D cy p R s m args meth c y) (hS : Stt b0 D cy s y H locs ls L h) (hd : decode (bts y) pc = .ok (.invokestatic i, 3)) (hq : tfind clT (ow y) i = some q) (ha : acl y q false true L st h pc = aJ pc' L' st' h') (hcc : cells ≤ R.cells) (hss : slots ≤ R.slots) (kk : ∀ (ls' : Array Slot) (H' : Heap) (locs' : List Loc), Stt b0 D cy s y H' locs' ls' L' h' → W p l e R s m args below meth c H' locs' (cells + (gX h' - gX h)) (slots + (gS h' - gS h)) Q (F0 m pc' ls' st')) : W p l e R s m args below meth c H locs cells slots Q (F0 m pc ls st) := by
  obtain ⟨hx, hb, hml, hown, hts, hb0, hK, hfr, hlo, hnm⟩ := hC
  obtain ⟨hL, hR, hSS, hCn⟩ := id hS
  have hmls : c.maxLocals = ls.size := hml.trans hL.1.symm
  have hws := lk_use hq
  unfold acl at ha
  split at ha
  · rename_i h6
    split at ha
    · rename_i hg
      split at ha
      · split at ha
        · rename_i hcat
          simp only [aJ, Option.some.injEq, Sum.inr.injEq, Sum.inl.injEq, Prod.mk.injEq] at ha
          obtain ⟨rfl, rfl, rfl, rfl⟩ := ha
          simp only [Nat.sub_self, Nat.add_zero] at kk
          exact absurd hg.1 (by decide)
        · simp [aJ] at ha
      · simp [aJ] at ha
    · simp [aJ] at ha
  · split at ha
    · rename_i h7
      split at ha
      · rename_i hg
        split at ha
        · split at ha
          · rename_i hcat
            simp only [aJ, Option.some.injEq, Sum.inr.injEq, Sum.inl.injEq, Prod.mk.injEq] at ha
            obtain ⟨rfl, rfl, rfl, rfl⟩ := ha
            obtain ⟨c1, c2, c3, c4, c5, c6, c7, c8⟩ := hcat
            have hw : lkW ((ow y, i), q) = [.methodLink (onm (ow y)) i arraycopyName, .native arraycopyName, .static arraycopyName, .initialized "java/lang/System"] := by
              unfold lkW
              rw [h7]
              rfl
            rw [hw] at hws
            refine cpi_row hx hb hmls hown (fun w h9 => hts _ (hws _ h9)) hK hR hSS hL hCn c7 c8 c1 c2 c3 c4 c5 (by omega) (by omega) c6 hd (fun H' locs' hS' => ?_)
            have kk9 := kk _ H' locs' hS'
            simp only [gX_cp, gS_cp, Nat.sub_self, Nat.add_zero] at kk9
            exact kk9
          · simp [aJ] at ha
        · simp [aJ] at ha
      · simp [aJ] at ha
    · split at ha
      · rename_i h8
        split at ha
        · rename_i hg
          split at ha
          · split at ha
            · rename_i hcat
              simp only [aJ, Option.some.injEq, Sum.inr.injEq, Sum.inl.injEq, Prod.mk.injEq] at ha
              obtain ⟨rfl, rfl, rfl, rfl⟩ := ha
              simp only [Nat.sub_self, Nat.add_zero] at kk
              have hw : lkW ((ow y, i), q) = [.methodLink (onm (ow y)) i Lib.Math.max.name, .static Lib.Math.max.name, .initialized "java/lang/Math", .code Lib.Math.max.name Lib.Math.max.code 2 (some .int)] := by
                unfold lkW
                rw [h8]
                rfl
              rw [hw] at hws
              exact va_mmax hx hb hmls hown (hts _ (hws _ (by simp))) (hts _ (hws _ (by simp))) (hts _ (hws _ (by simp))) (hts _ (hws _ (by simp))) (by omega) (by rw [cats_eq]; omega) hcc hss hd (kk _ _ _ hS)
            · simp [aJ] at ha
          · simp [aJ] at ha
        · simp [aJ] at ha
      · split at ha
        · rename_i h9
          split at ha
          · rename_i hg
            split at ha
            · split at ha
              · rename_i hcat
                simp only [aJ, Option.some.injEq, Sum.inr.injEq, Sum.inl.injEq, Prod.mk.injEq] at ha
                obtain ⟨rfl, rfl, rfl, rfl⟩ := ha
                simp only [Nat.sub_self, Nat.add_zero] at kk
                have hw : lkW ((ow y, i), q) = [.methodLink (onm (ow y)) i Lib.Math.min.name, .static Lib.Math.min.name, .initialized "java/lang/Math", .code Lib.Math.min.name Lib.Math.min.code 2 (some .int)] := by
                  unfold lkW
                  rw [h9]
                  rfl
                rw [hw] at hws
                exact va_mmin hx hb hmls hown (hts _ (hws _ (by simp))) (hts _ (hws _ (by simp))) (hts _ (hws _ (by simp))) (hts _ (hws _ (by simp))) (by omega) (by rw [cats_eq]; omega) hcc hss hd (kk _ _ _ hS)
              · simp [aJ] at ha
            · simp [aJ] at ha
          · simp [aJ] at ha
        · split at ha
          · split at ha
            · split at ha
              · unfold aC2 at ha
                split at ha <;> simp [aC, aJ] at ha
              · simp [aJ] at ha
            · split at ha
              · split at ha
                · split at ha
                  · unfold aC2 at ha
                    split at ha <;> simp [aC, aJ] at ha
                  · simp [aJ] at ha
                · simp [aJ] at ha
              · simp [aJ] at ha
          · simp [aJ] at ha

