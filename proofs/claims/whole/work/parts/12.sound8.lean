variable {l : Launch} {b0 : Nat} {D : va_G} {cy : Nat → ClassId} {p : Program} {e : Env} {R : Room} {s : State} {m : MethodId} {args : Array Value} {below : List Frame} {meth : Method} {c : Code} {H : Heap} {locs : List Loc} {cells slots : Nat} {Q : State → Prop} {y pc pc' : Nat} {L L' st st' : List Value} {h h' : Hp} {ls : Array Slot}

theorem jump_ok {q : Jmp} (hC : Ctx b0 D cy p R s m args meth c y) (hS : Stt b0 D cy s y H locs ls L h) (ha0 : act y pc L st h = some (.inr (.inl q))) (hrm : cells + (gX q.2.2.2 - gX h) ≤ R.cells ∧ slots + (gS q.2.2.2 - gS h) ≤ R.slots) (kk : ∀ (ls' : Array Slot) (H' : Heap) (locs' : List Loc), Stt b0 D cy s y H' locs' ls' q.2.1 q.2.2.2 → W p l e R s m args below meth c H' locs' (cells + (gX q.2.2.2 - gX h)) (slots + (gS q.2.2.2 - gS h)) Q (F0 m q.1 ls' q.2.2.1)) : W p l e R s m args below meth c H locs cells slots Q (F0 m pc ls st) := by
  obtain ⟨pc', L', st', h'⟩ := q
  unfold act at ha0
  split at ha0
  · cases ha0
  · rename_i ins len hd
    split at ha0
    · rename_i hl
      have ha : sxx y pc ins L st h = aJ pc' L' st' h' := ha0
      have hcc : cells ≤ R.cells := by have := hrm.1; omega
      have hss : slots ≤ R.slots := by have := hrm.2; omega
      cases ins with
      | iadd =>
        have e9 : len = 1 := by simpa [lnB] using hl
        subst e9
        exact jk_iadd hC hS hd ha hrm kk
      | isub =>
        have e9 : len = 1 := by simpa [lnB] using hl
        subst e9
        exact jk_isub hC hS hd ha hrm kk
      | imul =>
        have e9 : len = 1 := by simpa [lnB] using hl
        subst e9
        exact jk_imul hC hS hd ha hrm kk
      | idiv =>
        have e9 : len = 1 := by simpa [lnB] using hl
        subst e9
        exact jk_idiv hC hS hd ha hrm kk
      | irem =>
        have e9 : len = 1 := by simpa [lnB] using hl
        subst e9
        exact jk_irem hC hS hd ha hrm kk
      | ineg =>
        have e9 : len = 1 := by simpa [lnB] using hl
        subst e9
        exact jk_ineg hC hS hd ha hrm kk
      | iand =>
        have e9 : len = 1 := by simpa [lnB] using hl
        subst e9
        exact jk_iand hC hS hd ha hrm kk
      | ior =>
        have e9 : len = 1 := by simpa [lnB] using hl
        subst e9
        exact jk_ior hC hS hd ha hrm kk
      | ishl =>
        have e9 : len = 1 := by simpa [lnB] using hl
        subst e9
        exact jk_ishl hC hS hd ha hrm kk
      | ishr =>
        have e9 : len = 1 := by simpa [lnB] using hl
        subst e9
        exact jk_ishr hC hS hd ha hrm kk
      | iushr =>
        have e9 : len = 1 := by simpa [lnB] using hl
        subst e9
        exact jk_iushr hC hS hd ha hrm kk
      | i2l =>
        have e9 : len = 1 := by simpa [lnB] using hl
        subst e9
        exact jk_i2l hC hS hd ha hrm kk
      | l2i =>
        have e9 : len = 1 := by simpa [lnB] using hl
        subst e9
        exact jk_l2i hC hS hd ha hrm kk
      | i2b =>
        have e9 : len = 1 := by simpa [lnB] using hl
        subst e9
        exact jk_i2b hC hS hd ha hrm kk
      | i2s =>
        have e9 : len = 1 := by simpa [lnB] using hl
        subst e9
        exact jk_i2s hC hS hd ha hrm kk
      | i2c =>
        have e9 : len = 1 := by simpa [lnB] using hl
        subst e9
        exact jk_i2c hC hS hd ha hrm kk
      | lcmp =>
        have e9 : len = 1 := by simpa [lnB] using hl
        subst e9
        exact jk_lcmp hC hS hd ha hrm kk
      | land =>
        have e9 : len = 1 := by simpa [lnB] using hl
        subst e9
        exact jk_land hC hS hd ha hrm kk
      | lor =>
        have e9 : len = 1 := by simpa [lnB] using hl
        subst e9
        exact jk_lor hC hS hd ha hrm kk
      | lshl =>
        have e9 : len = 1 := by simpa [lnB] using hl
        subst e9
        exact jk_lshl hC hS hd ha hrm kk
      | dup =>
        have e9 : len = 1 := by simpa [lnB] using hl
        subst e9
        exact jk_dup hC hS hd ha hrm kk
      | dup_x1 =>
        have e9 : len = 1 := by simpa [lnB] using hl
        subst e9
        exact jk_dup_x1 hC hS hd ha hrm kk
      | dup2 =>
        have e9 : len = 1 := by simpa [lnB] using hl
        subst e9
        exact jk_dup2 hC hS hd ha hrm kk
      | pop =>
        have e9 : len = 1 := by simpa [lnB] using hl
        subst e9
        exact jk_pop hC hS hd ha hrm kk
      | iaload =>
        have e9 : len = 1 := by simpa [lnB] using hl
        subst e9
        exact jk_iaload hC hS hd ha hrm kk
      | laload =>
        have e9 : len = 1 := by simpa [lnB] using hl
        subst e9
        exact jk_laload hC hS hd ha hrm kk
      | baload =>
        have e9 : len = 1 := by simpa [lnB] using hl
        subst e9
        exact jk_baload hC hS hd ha hrm kk
      | aaload =>
        have e9 : len = 1 := by simpa [lnB] using hl
        subst e9
        exact jk_aaload hC hS hd ha hrm kk
      | iastore =>
        have e9 : len = 1 := by simpa [lnB] using hl
        subst e9
        exact jk_iastore hC hS hd ha hrm kk
      | lastore =>
        have e9 : len = 1 := by simpa [lnB] using hl
        subst e9
        exact jk_lastore hC hS hd ha hrm kk
      | bastore =>
        have e9 : len = 1 := by simpa [lnB] using hl
        subst e9
        exact jk_bastore hC hS hd ha hrm kk
      | aastore =>
        have e9 : len = 1 := by simpa [lnB] using hl
        subst e9
        exact jk_aastore hC hS hd ha hrm kk
      | arraylength =>
        have e9 : len = 1 := by simpa [lnB] using hl
        subst e9
        exact jk_arraylength hC hS hd ha hrm kk
      | iconst i =>
        have e9 : len = 1 := by simpa [lnB] using hl
        subst e9
        exact jk_iconst hC hS hd ha hrm kk
      | bipush i =>
        have e9 : len = 2 := by simpa [lnB] using hl
        subst e9
        exact jk_bipush hC hS hd ha hrm kk
      | sipush i =>
        have e9 : len = 3 := by simpa [lnB] using hl
        subst e9
        exact jk_sipush hC hS hd ha hrm kk
      | lconst k =>
        have e9 : len = 1 := by simpa [lnB] using hl
        subst e9
        exact jk_lconst hC hS hd ha hrm kk
      | ldc i =>
        have e9 : len = 2 := by simpa [lnB] using hl
        subst e9
        exact jk_ldc hC hS hd ha hrm kk
      | ldc_w i =>
        have e9 : len = 3 := by simpa [lnB] using hl
        subst e9
        exact jk_ldc_w hC hS hd ha hrm kk
      | ldc2_w i =>
        have e9 : len = 3 := by simpa [lnB] using hl
        subst e9
        exact jk_ldc2_w hC hS hd ha hrm kk
      | iload_n k =>
        have e9 : len = 1 := by simpa [lnB] using hl
        subst e9
        exact jk_iload_n hC hS hd ha hrm kk
      | iload i =>
        have e9 : len = 2 := by simpa [lnB] using hl
        subst e9
        exact jk_iload hC hS hd ha hrm kk
      | lload_n k =>
        have e9 : len = 1 := by simpa [lnB] using hl
        subst e9
        exact jk_lload_n hC hS hd ha hrm kk
      | lload i =>
        have e9 : len = 2 := by simpa [lnB] using hl
        subst e9
        exact jk_lload hC hS hd ha hrm kk
      | aload_n k =>
        have e9 : len = 1 := by simpa [lnB] using hl
        subst e9
        exact jk_aload_n hC hS hd ha hrm kk
      | aload i =>
        have e9 : len = 2 := by simpa [lnB] using hl
        subst e9
        exact jk_aload hC hS hd ha hrm kk
      | istore_n k =>
        have e9 : len = 1 := by simpa [lnB] using hl
        subst e9
        exact jk_istore_n hC hS hd ha hrm kk
      | istore i =>
        have e9 : len = 2 := by simpa [lnB] using hl
        subst e9
        exact jk_istore hC hS hd ha hrm kk
      | lstore_n k =>
        have e9 : len = 1 := by simpa [lnB] using hl
        subst e9
        exact jk_lstore_n hC hS hd ha hrm kk
      | astore_n k =>
        have e9 : len = 1 := by simpa [lnB] using hl
        subst e9
        exact jk_astore_n hC hS hd ha hrm kk
      | astore i =>
        have e9 : len = 2 := by simpa [lnB] using hl
        subst e9
        exact jk_astore hC hS hd ha hrm kk
      | iinc i n =>
        have e9 : len = 3 := by simpa [lnB] using hl
        subst e9
        exact jk_iinc hC hS hd ha hrm kk
      | getfield i =>
        have e9 : len = 3 := by simpa [lnB] using hl
        subst e9
        exact jk_getfield hC hS hd ha hrm kk
      | putfield i =>
        have e9 : len = 3 := by simpa [lnB] using hl
        subst e9
        exact jk_putfield hC hS hd ha hrm kk
      | getstatic i =>
        have e9 : len = 3 := by simpa [lnB] using hl
        subst e9
        exact jk_getstatic hC hS hd ha hrm kk
      | newarray t =>
        have e9 : len = 2 := by simpa [lnB] using hl
        subst e9
        exact jk_newarray hC hS hd ha hrm kk
      | new i =>
        have e9 : len = 3 := by simpa [lnB] using hl
        subst e9
        exact jk_new hC hS hd ha hrm kk
      | anewarray i =>
        have e9 : len = 3 := by simpa [lnB] using hl
        subst e9
        exact jk_anewarray hC hS hd ha hrm kk
      | multianewarray i d =>
        have e9 : len = 4 := by simpa [lnB] using hl
        subst e9
        exact jk_multianewarray hC hS hd ha hrm kk
      | goto o =>
        have e9 : len = 3 := by simpa [lnB] using hl
        subst e9
        exact jk_goto hC hS hd ha hrm kk
      | ifnonnull o =>
        have e9 : len = 3 := by simpa [lnB] using hl
        subst e9
        exact jk_ifnonnull hC hS hd ha hrm kk
      | ifnull o =>
        have e9 : len = 3 := by simpa [lnB] using hl
        subst e9
        exact jk_ifnull hC hS hd ha hrm kk
      | if_icmp cc o =>
        have e9 : len = 3 := by simpa [lnB] using hl
        subst e9
        cases cc
        case eq => exact jk_if_icmp_eq hC hS hd ha hrm kk
        case ne => exact jk_if_icmp_ne hC hS hd ha hrm kk
        case lt => exact jk_if_icmp_lt hC hS hd ha hrm kk
        case ge => exact jk_if_icmp_ge hC hS hd ha hrm kk
        case gt => exact jk_if_icmp_gt hC hS hd ha hrm kk
        case le => exact jk_if_icmp_le hC hS hd ha hrm kk
      | ifCond cc o =>
        have e9 : len = 3 := by simpa [lnB] using hl
        subst e9
        cases cc
        case eq => exact jk_ifCond_eq hC hS hd ha hrm kk
        case ne => exact jk_ifCond_ne hC hS hd ha hrm kk
        case lt => exact jk_ifCond_lt hC hS hd ha hrm kk
        case ge => exact jk_ifCond_ge hC hS hd ha hrm kk
        case gt => exact jk_ifCond_gt hC hS hd ha hrm kk
        case le => exact jk_ifCond_le hC hS hd ha hrm kk
      | tableswitch d lo hi offs => exact jk_tableswitch hC hS hd ha hrm kk
      | invokevirtual i =>
        have e9 : len = 3 := by simpa [lnB] using hl
        subst e9
        simp only [sxx] at ha
        split at ha
        · rename_i q hq
          exact bi_virtual hC hS hd hq ha hcc hss kk
        · simp [aJ] at ha
      | invokespecial i =>
        have e9 : len = 3 := by simpa [lnB] using hl
        subst e9
        simp only [sxx] at ha
        split at ha
        · rename_i q hq
          exact bi_special hC hS hd hq ha hcc hss kk
        · simp [aJ] at ha
      | invokestatic i =>
        have e9 : len = 3 := by simpa [lnB] using hl
        subst e9
        simp only [sxx] at ha
        split at ha
        · rename_i q hq
          exact bi_static hC hS hd hq ha hcc hss kk
        · simp [aJ] at ha
      | ireturn =>
        simp only [sxx] at ha
        repeat' split at ha
        all_goals simp [aD, aJ] at ha
      | lreturn =>
        simp only [sxx] at ha
        repeat' split at ha
        all_goals simp [aD, aJ] at ha
      | areturn =>
        simp only [sxx] at ha
        repeat' split at ha
        all_goals simp [aD, aJ] at ha
      | return_ =>
        simp only [sxx] at ha
        repeat' split at ha
        all_goals simp [aD, aJ] at ha
      | _ => simp [sxx, aJ] at ha
    · cases ha0

def RI (y pc : Nat) (r : Option Value) : Prop := match r with
  | none => decode (bts y) pc = .ok (.return_, 1) ∧ rty y = none
  | some (.int v) => decode (bts y) pc = .ok (.ireturn, 1) ∧ ∃ t, rty y = some t ∧ narrow t (.int v) = .int v
  | some (.long _) => decode (bts y) pc = .ok (.lreturn, 1) ∧ rty y = some .long
  | some (.ref _) => decode (bts y) pc = .ok (.areturn, 1) ∧ ∃ n, rty y = some (.object n)
  | _ => False
theorem acl_nd {q : Nat × Nat × Nat × Nat} {sp stt : Bool} {r : Option Value} (ha : acl y q sp stt L st h pc = some (.inl r)) : False := by
  unfold acl at ha
  repeat' split at ha
  all_goals (try unfold aC2 at ha)
  all_goals (try split at ha)
  all_goals simp [aJ, aC] at ha
theorem done_ok {r : Option Value} (ha0 : act y pc L st h = some (.inl r)) : RI y pc r ∧ st = r.toList := by
  unfold act at ha0
  split at ha0
  · cases ha0
  · rename_i ins len hd
    split at ha0
    · rename_i hl
      cases ins with
      | ireturn =>
        have e9 : len = 1 := by simpa [lnB] using hl
        subst e9
        simp only [sxx] at ha0
        split at ha0
        · rename_i v
          split at ha0
          · rename_i t ht
            split at ha0
            · rename_i hc
              simp only [aD, Option.some.injEq, Sum.inl.injEq] at ha0
              subst ha0
              exact ⟨⟨hd, t, ht, hc.2⟩, rfl⟩
            · cases ha0
          · cases ha0
        · cases ha0
      | lreturn =>
        have e9 : len = 1 := by simpa [lnB] using hl
        subst e9
        simp only [sxx] at ha0
        split at ha0
        · split at ha0
          · rename_i hc
            simp only [aD, Option.some.injEq, Sum.inl.injEq] at ha0
            subst ha0
            exact ⟨⟨hd, hc⟩, rfl⟩
          · cases ha0
        · cases ha0
      | areturn =>
        have e9 : len = 1 := by simpa [lnB] using hl
        subst e9
        simp only [sxx] at ha0
        split at ha0
        · split at ha0
          · rename_i hc
            simp only [aD, Option.some.injEq, Sum.inl.injEq] at ha0
            subst ha0
            exact ⟨⟨hd, _, hc⟩, rfl⟩
          · cases ha0
        · cases ha0
      | return_ =>
        have e9 : len = 1 := by simpa [lnB] using hl
        subst e9
        simp only [sxx] at ha0
        split at ha0
        · split at ha0
          · rename_i hc
            simp only [aD, Option.some.injEq, Sum.inl.injEq] at ha0
            subst ha0
            exact ⟨⟨hd, hc⟩, rfl⟩
          · cases ha0
        · cases ha0
      | invokevirtual i =>
        simp only [sxx] at ha0
        split at ha0
        · exact (acl_nd ha0).elim
        · cases ha0
      | invokespecial i =>
        simp only [sxx] at ha0
        split at ha0
        · exact (acl_nd ha0).elim
        · cases ha0
      | invokestatic i =>
        simp only [sxx] at ha0
        split at ha0
        · exact (acl_nd ha0).elim
        · cases ha0
      | _ =>
        simp only [sxx] at ha0
        repeat' split at ha0
        all_goals first | cases ha0 | (simp [aJ] at ha0)
    · cases ha0
/-- a call of the table: what is known of it -/
def CI (y pc : Nat) (h : Hp) (st : List Value) (z : Nat) (as st' : List Value) : Prop := ∃ (i : Nat) (q : Nat × Nat × Nat × Nat), tfind clT (ow y) i = some q ∧ q.2.1 = z ∧ rmo y z = true ∧ ago z as = true ∧ cats st' ≤ 8 ∧
  ((decode (bts y) pc = .ok (.invokestatic i, 3) ∧ (q.1 = 1 ∨ q.1 = 4) ∧ as.length = q.2.2.1 ∧ st = as.reverse ++ st') ∨
   ∃ (a : Nat) (As : List Value), as = .ref a :: As ∧ As.length = q.2.2.1 ∧ st = As.reverse ++ .ref a :: st' ∧ rcK z (gK h a) = true ∧ ((decode (bts y) pc = .ok (.invokevirtual i, 3) ∧ q.1 = 0) ∨ (decode (bts y) pc = .ok (.invokespecial i, 3) ∧ (q.1 = 2 ∨ q.1 = 5))))
theorem acl_call {q : Nat × Nat × Nat × Nat} {sp stt : Bool} {z : Nat} {as : List Value} (ha : acl y q sp stt L st h pc = some (.inr (.inr (z, as, st')))) : q.2.1 = z ∧ rmo y z = true ∧ ago z as = true ∧ cats st' ≤ 8 ∧
  ((stt = true ∧ (q.1 = 1 ∨ q.1 = 4) ∧ as.length = q.2.2.1 ∧ st = as.reverse ++ st') ∨
   ∃ (a : Nat) (As : List Value), as = .ref a :: As ∧ As.length = q.2.2.1 ∧ st = As.reverse ++ .ref a :: st' ∧ rcK z (gK h a) = true ∧ stt = false ∧ ((sp = false ∧ q.1 = 0) ∨ (sp = true ∧ (q.1 = 2 ∨ q.1 = 5)))) := by
  unfold acl at ha
  split at ha
  · repeat' split at ha
    all_goals simp [aJ] at ha
  · split at ha
    · repeat' split at ha
      all_goals simp [aJ] at ha
    · split at ha
      · repeat' split at ha
        all_goals simp [aJ] at ha
      · split at ha
        · repeat' split at ha
          all_goals simp [aJ] at ha
        · split at ha
          · rename_i hrmo
            split at ha
            · rename_i hk
              split at ha
              · rename_i hc
                unfold aC2 at ha
                split at ha
                · rename_i hg
                  simp only [aC, Option.some.injEq, Sum.inr.injEq, Prod.mk.injEq] at ha
                  obtain ⟨rfl, rfl, rfl⟩ := ha
                  refine ⟨rfl, hrmo, hg, hc.2, Or.inl ⟨hk.2, hk.1, ?_, ?_⟩⟩
                  · rw [List.length_reverse, List.length_take]
                    omega
                  · rw [List.reverse_reverse, List.take_append_drop]
                · cases ha
              · cases ha
            · split at ha
              · rename_i hk
                split at ha
                · rename_i a st9 hdr
                  split at ha
                  · rename_i hc
                    unfold aC2 at ha
                    split at ha
                    · rename_i hg
                      simp only [aC, Option.some.injEq, Sum.inr.injEq, Prod.mk.injEq] at ha
                      obtain ⟨rfl, rfl, rfl⟩ := ha
                      refine ⟨rfl, hrmo, hg, hc.2.1, Or.inr ⟨a, (st.take q.2.2.1).reverse, rfl, ?_, ?_, hc.2.2, hk.2, ?_⟩⟩
                      · rw [List.length_reverse, List.length_take]
                        omega
                      · rw [List.reverse_reverse, ← hdr, List.take_append_drop]
                      · rcases hk.1 with z | z
                        · exact Or.inl ⟨z.2, z.1⟩
                        · exact Or.inr ⟨z.2, z.1⟩
                    · cases ha
                  · cases ha
                · cases ha
              · cases ha
          · cases ha
theorem call_inv {z : Nat} {as : List Value} (ha0 : act y pc L st h = some (.inr (.inr (z, as, st')))) : CI y pc h st z as st' := by
  unfold act at ha0
  split at ha0
  · cases ha0
  · rename_i ins len hd
    split at ha0
    · rename_i hl
      cases ins with
      | invokevirtual i =>
        have e9 : len = 3 := by simpa [lnB] using hl
        subst e9
        simp only [sxx] at ha0
        split at ha0
        · rename_i q hq
          obtain ⟨h1, h2, h3, h4, h5⟩ := acl_call ha0
          refine ⟨i, q, hq, h1, h2, h3, h4, ?_⟩
          rcases h5 with z | ⟨a, As, g1, g2, g3, g4, g5, g6⟩
          · exact absurd z.1 (by decide)
          · rcases g6 with g6 | g6
            · exact Or.inr ⟨a, As, g1, g2, g3, g4, Or.inl ⟨hd, g6.2⟩⟩
            · exact absurd g6.1 (by decide)
        · cases ha0
      | invokespecial i =>
        have e9 : len = 3 := by simpa [lnB] using hl
        subst e9
        simp only [sxx] at ha0
        split at ha0
        · rename_i q hq
          obtain ⟨h1, h2, h3, h4, h5⟩ := acl_call ha0
          refine ⟨i, q, hq, h1, h2, h3, h4, ?_⟩
          rcases h5 with z | ⟨a, As, g1, g2, g3, g4, g5, g6⟩
          · exact absurd z.1 (by decide)
          · rcases g6 with g6 | g6
            · exact absurd g6.1 (by decide)
            · exact Or.inr ⟨a, As, g1, g2, g3, g4, Or.inr ⟨hd, g6.2⟩⟩
        · cases ha0
      | invokestatic i =>
        have e9 : len = 3 := by simpa [lnB] using hl
        subst e9
        simp only [sxx] at ha0
        split at ha0
        · rename_i q hq
          obtain ⟨h1, h2, h3, h4, h5⟩ := acl_call ha0
          refine ⟨i, q, hq, h1, h2, h3, h4, ?_⟩
          rcases h5 with z | ⟨a, As, g1, g2, g3, g4, g5, g6⟩
          · exact Or.inl ⟨hd, z.2.1, z.2.2.1, z.2.2.2⟩
          · exact absurd g5 (by decide)
        · cases ha0
      | _ =>
        simp only [sxx] at ha0
        repeat' split at ha0
        all_goals first | cases ha0 | (simp [aJ, aD] at ha0)
    · cases ha0

