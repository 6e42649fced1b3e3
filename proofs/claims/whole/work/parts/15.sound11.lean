theorem cl_b {y i : Nat} {q : Nat × Nat × Nat × Nat} (hq : tfind clT (ow y) i = some q) (h6 : q.1 < 6) : q.2.1 < 251 ∧ plainName (nmo q.2.1).cls = true ∧ (parseMethodDescriptor (nmo q.2.1).desc).map (fun d => d.parameters.length) = some q.2.2.1 ∧ ((q.1 = 2 ∨ q.1 = 5) → (nmo q.2.1).name = "<init>" ∧ rty q.2.1 = none) := by
  have h := List.all_eq_true.mp clB_ok _ (tf_mem hq)
  simp only [clB, Bool.and_eq_true, Bool.or_eq_true, Bool.not_eq_true', decide_eq_true_eq, decide_eq_false_iff_not, Option.isNone_iff_eq_none] at h
  obtain ⟨⟨h1, h2⟩, h3⟩ := h
  rcases h3 with h3 | ⟨⟨⟨h3, h4⟩, h5⟩, h7⟩
  · omega
  · refine ⟨h3, h4, h5, fun h8 => ?_⟩
    rcases h7 with h7 | h7
    · exact absurd h8 h7
    · exact h7
theorem call_run {l : Launch} {b0 : Nat} {D : va_G} {cy : Nat → ClassId} {p : Program} {e : Env} {R : Room} {s : State} {m : MethodId} {args : Array Value} {below : List Frame} {meth : Method} {c : Code} {H : Heap} {locs : List Loc} {cells slots : Nat} {y pc : Nat} {L st st' as : List Value} {h : Hp} {ls : Array Slot} {z mc ms : Nat} {Qc : Array Value → State → Outcome → State → Prop} {free : Addr → Prop}
    (hC : Ctx b0 D cy p R s m args meth c y) (hS : Stt b0 D cy s y H locs ls L h) (hci : CI y pc h st z as st') (hM : Met l (nmo z) (wso z) { frames := frm z, cells := mc, slots := ms, locals := lom z } (va_Pc as (fun U => Ent b0 D cy U h)) Qc mc ms free) (hf : cells + mc ≤ R.cells ∧ slots + ms ≤ R.slots) :
    va_Run p l e R s m args below meth c H locs cells slots mc ms (F0 m pc ls st) st' (Qc as.toArray) free := by
  obtain ⟨hx, hb, hml, hown, hts, hb0, hK, hfr, hlo, hnm⟩ := hC
  have hent : ∀ U : State, U.heap = H → s.WarmedH U.vm → va_Pc as (fun U => Ent b0 D cy U h) as.toArray U := fun U hU hW => ⟨rfl, hS.ent hb0 hK U hU hW⟩
  obtain ⟨hL, hR, hSS, hCn⟩ := hS
  obtain ⟨i, q, hq, hz, hrmo, hago, hcat, hk⟩ := hci
  subst hz
  have hws := lk_use hq
  have h6 : q.1 < 6 := by
    rcases hk with hk | ⟨a, As, -, -, -, -, hk⟩ <;> omega
  obtain ⟨hz, hpl, hpar, hini⟩ := cl_b hq h6
  have hcode := wso_good hz
  obtain ⟨hcls, hmh, hvh⟩ := nm_all q.2.1 (by omega)
  simp only [rmo, Bool.and_eq_true, decide_eq_true_eq] at hrmo
  obtain ⟨⟨-, hr1⟩, hr2⟩ := hrmo
  have hRR : frm q.2.1 + 1 ≤ R.frames ∧ 8 + (mxl q.2.1 + 11) + lom q.2.1 ≤ R.locals := ⟨by omega, by omega⟩
  have hW : 2 * (F0 m pc ls st).monitorRoom + (st'.map fun v => v.category).sum ≤ 8 := by
    rw [cats_eq]
    show 2 * 0 + _ ≤ 8
    omega
  rcases hk with ⟨hd, hk, hlen, hst⟩ | ⟨a, As, rfl, hlen, hst, hka, hk⟩
  · rcases hk with hk | hk
    · have hw : lkW ((ow y, i), q) = [.methodLink (onm (ow y)) i (nmo q.2.1), .static (nmo q.2.1), .initialized (nmo q.2.1).cls] := by
        unfold lkW
        rw [hk]
        rfl
      rw [hw] at hws
      exact va_runS (rm := { frames := frm q.2.1, cells := mc, slots := ms, locals := lom q.2.1 }) ⟨hx, hb, hml, hown, hts⟩ hM (va_cwS (ws' := gtb) q.2.2.1 hts (goodIn_gtb (fun w h9 => by
        rcases List.mem_append.mp h9 with h9 | h9
        · exact hws w h9
        · exact hcode w h9)) rfl rfl rfl ⟨hmh, hvh, hpar⟩ hRR) ⟨Ent.blind as, hent⟩ rfl hlen hL.1 hst hW hd hf
    · have hw : lkW ((ow y, i), q) = [.static (nmo q.2.1), .initialized (nmo q.2.1).cls] := by
        unfold lkW
        rw [hk]
        rfl
      rw [hw] at hws
      have hn := List.all_eq_true.mp clN_ok _ (tf_mem hq)
      simp only [clN, Bool.or_eq_true, Bool.not_eq_true', decide_eq_true_eq, decide_eq_false_iff_not] at hn
      have hn : lw_tbl[q.2.2.2]? = some (Jvm.Cond.methodLinkNest (onm (ow y)) i (nmo q.2.1) "BootSale") := by
        rcases hn with hn | hn
        · exact absurd (Or.inl hk) hn
        · exact hn
      have hnw := hCn.2.2.2.2.2.1 _ (nwi2 hn)
      exact va_runSN (rm := { frames := frm q.2.1, cells := mc, slots := ms, locals := lom q.2.1 }) ⟨hx, hb, hml, hown, hts⟩ hM ⟨va_cnB (ws' := gtb) q.2.2.1 hts (goodIn_gtb hcode) rfl rfl rfl hnw (hts _ (hws _ (by simp))) ⟨hmh, hvh, hpar⟩ hRR, hts _ (hws _ (by simp)), trivial⟩ ⟨Ent.blind as, hent⟩ rfl hlen hL.1 hst hW hd hf
  · rcases hk with ⟨hd, hk⟩ | ⟨hd, hk⟩
    · have hw : lkW ((ow y, i), q) = [.methodLink (onm (ow y)) i (nmo q.2.1), .instanceMethod (nmo q.2.1), .selects (nmo q.2.1).cls (nmo q.2.1) (nmo q.2.1), .initialized (nmo q.2.1).cls] := by
        unfold lkW
        rw [hk]
        rfl
      rw [hw] at hws
      have hrec : ∃ cellB : Cell, H[a]? = some cellB ∧ cellB.vm.isStatics = false ∧ s.vm.findClass (nmo q.2.1).cls = some cellB.cls := by
        have hrc := List.all_eq_true.mp cl_recv _ (tf_mem hq)
        simp only [Bool.or_eq_true, Bool.not_eq_true', decide_eq_true_eq, decide_eq_false_iff_not] at hrc
        rw [hcls]
        by_cases h7 : ow q.2.1 < 7
        · have hka : gK h a = ow q.2.1 + 1 := by unfold rcK at hka; rw [if_pos h7] at hka; exact of_decide_eq_true hka
          have := va_recv hK (hR.obj h7 hka) (cO_at _ h7) (q0 := 0) rfl
          rwa [on_all _ h7] at this
        · have hka : stK (gK h a) = true := by unfold rcK at hka; rw [if_neg h7] at hka; exact hka
          have hon : onm (ow q.2.1) = "java/lang/String" := by
            rcases hrc with z | z | z
            · exact absurd hk z
            · exact absurd z h7
            · exact z
          rw [hon]
          obtain ⟨cell, g1, g2, g3, -⟩ := (hCn.2.2.2.1 a hka).1.kept hSS.2.1
          exact ⟨cell, g1, g2, g3⟩
      exact va_runV (rm := { frames := frm q.2.1, cells := mc, slots := ms, locals := lom q.2.1 }) ⟨hx, hb, hml, hown, hts⟩ hM (cwV (ws' := gtb) q.2.2.1 hts (goodIn_gtb (fun w h9 => by
        rcases List.mem_append.mp h9 with h9 | h9
        · exact hws w h9
        · exact hcode w h9)) rfl rfl rfl ⟨rfl, hmh, hvh, hpar⟩ hRR) ⟨Ent.blind _, hrec, hent⟩ rfl hlen hL.1 hst hW hd hf
    · obtain ⟨hi1, hi2⟩ := hini hk
      rcases hk with hk | hk
      · have hw : lkW ((ow y, i), q) = [.methodLink (onm (ow y)) i (nmo q.2.1), .instanceMethod (nmo q.2.1), .initialized (nmo q.2.1).cls] := by
          unfold lkW
          rw [hk]
          rfl
        rw [hw] at hws
        exact va_runI (rm := { frames := frm q.2.1, cells := mc, slots := ms, locals := lom q.2.1 }) ⟨hx, hb, hml, hown, hts⟩ hM (cwI (ws := wso q.2.1) (ws' := gtb) q.2.2.1 hts (goodIn_gtb hcode) (by unfold wso; rw [hi2]) rfl rfl (hts _ (hws _ (by simp))) (hts _ (hws _ (by simp))) (hts _ (hws _ (by simp))) hi1 ⟨hmh, hvh, hpar⟩ hRR) ⟨Ent.blind _, hent⟩ rfl hlen hL.1 hst hW hd hf
      · have hw : lkW ((ow y, i), q) = [.instanceMethod (nmo q.2.1), .initialized (nmo q.2.1).cls] := by
          unfold lkW
          rw [hk]
          rfl
        rw [hw] at hws
        have hn := List.all_eq_true.mp clN_ok _ (tf_mem hq)
        simp only [clN, Bool.or_eq_true, Bool.not_eq_true', decide_eq_true_eq, decide_eq_false_iff_not] at hn
        have hn : lw_tbl[q.2.2.2]? = some (Jvm.Cond.methodLinkNest (onm (ow y)) i (nmo q.2.1) "BootSale") := by
          rcases hn with hn | hn
          · exact absurd (Or.inr hk) hn
          · exact hn
        have hnw := hCn.2.2.2.2.2.1 _ (nwi2 hn)
        exact va_runIN (rm := { frames := frm q.2.1, cells := mc, slots := ms, locals := lom q.2.1 }) ⟨hx, hb, hml, hown, hts⟩ hM ⟨va_cnB (ws := wso q.2.1) (ws' := gtb) q.2.2.1 hts (goodIn_gtb hcode) (by unfold wso; rw [hi2]) rfl rfl hnw (hts _ (hws _ (by simp))) ⟨hmh, hvh, hpar⟩ hRR, hi1, hts _ (hws _ (by simp))⟩ ⟨Ent.blind _, hent⟩ rfl hlen hL.1 hst hW hd hf
theorem sound (l : Launch) (b0 : Nat) (D : va_G) (cy : Nat → ClassId) : ∀ (n y pc : Nat) (L st : List Value) (h : Hp) (r : Option Value) (h' : Hp), exec n y pc L st h = some (r, h') → Rund l b0 D cy y pc L st h r h' := by
  intro n
  induction n with
  | zero => intro y pc L st h r h' e; simp [exec] at e
  | succ n ih =>
    intro y pc L st h r h' e0 p e R s m args below meth c H locs cells slots Q ls hC hS hrm hend
    rw [exec] at e0
    cases ha : act y pc L st h with
    | none => rw [ha] at e0; simp at e0
    | some a =>
      rw [ha] at e0
      match a, ha, e0 with
      | .inl r9, ha, e0 =>
        cases e0
        obtain ⟨h1, rfl⟩ := done_ok ha
        have := hend pc ls H locs h1 hS.2.1 hS.2.2.1
        rwa [Nat.sub_self, Nat.sub_self, Nat.add_zero, Nat.add_zero] at this
      | .inr (.inl q), ha, e0 =>
        have g1 := act_gr ha
        have g2 := exec_gr _ _ _ _ _ _ _ _ e0
        have x1 := g1.1
        have x2 := g1.2.1
        have x3 := g2.1
        have x4 := g2.2.1
        refine jump_ok hC hS ha ⟨by omega, by omega⟩ (fun ls' H' locs' hS' => ?_)
        refine ih _ _ _ _ _ _ _ e0 p e R s m args below meth c H' locs' _ _ Q ls' hC hS' ⟨by omega, by omega⟩ (fun pc' ls9 H9 locs9 r1 r2 r3 => ?_)
        have := hend pc' ls9 H9 locs9 r1 r2 r3
        rwa [show cells + (gX q.2.2.2 - gX h) + (gX h' - gX q.2.2.2) = cells + (gX h' - gX h) by omega, show slots + (gS q.2.2.2 - gS h) + (gS h' - gS q.2.2.2) = slots + (gS h' - gS h) by omega]
      | .inr (.inr (z, as, st')), ha, e0 =>
        dsimp only at e0
        cases hb9 : exec n z 0 (eL z as) [] h with
        | none => rw [hb9] at e0; simp at e0
        | some zz =>
          rw [hb9] at e0
          obtain ⟨r1, h1⟩ := zz
          dsimp only at e0
          have g1 := exec_gr _ _ _ _ _ _ _ _ hb9
          have g2 := exec_gr _ _ _ _ _ _ _ _ e0
          have x1 := g1.1
          have x2 := g1.2.1
          have x3 := g2.1
          have x4 := g2.2.1
          have hci := call_inv ha
          have hcw := exec_cw (b0 := b0) _ _ _ _ _ _ _ _ hS.2.1.wf hb9
          obtain ⟨hz, hpl, hago⟩ : z < 251 ∧ plainName (nmo z).cls = true ∧ ago z as = true := by
            obtain ⟨i, q, hq, hz, hrmo, hago, hcat, hk⟩ := hci
            subst hz
            have h6 : q.1 < 6 := by
              rcases hk with hk | ⟨a, As, -, -, -, -, hk⟩ <;> omega
            obtain ⟨hz, hpl, -⟩ := cl_b hq h6
            exact ⟨hz, hpl, hago⟩
          have hM := met_of (l := l) (D := D) (cy := cy) (b0 := b0) hz hpl hago (ih _ _ _ _ _ _ _ hb9)
          have hr := call_run (p := p) (e := e) (below := below) (cells := cells) (slots := slots) hC hS hci hM ⟨by omega, by omega⟩
          intro T hT X
          obtain ⟨v, st0, t, T', LL, e1, X', hLL, e2, e3, hq, go⟩ := hr T hT X
          obtain ⟨hv, hR1, hF⟩ := hq
          have hv : v = r1 := by injection hv
          subst hv
          obtain ⟨hL, hR, hSS, hCn⟩ := id hS
          have hS' : Stt b0 D cy s y T'.heap (locs ++ LL) ls L h1 := by
            refine ⟨hL, by rw [e2]; exact hR1, ⟨?_, fun q h1 h2 => ?_, fun q hq => ?_⟩, hCn.cst hcw.1⟩
            · rw [e2]
              have := hF.1
              rw [e1] at this
              exact Nat.le_trans hSS.1 this
            · rw [e2]
              have := hF.2 q (by rw [e1]; exact Nat.lt_of_lt_of_le h1 hSS.1) h2
              rw [this, e1]
              exact hSS.2.1 q h1 h2
            · rcases List.mem_append.mp hq with h | h
              · exact hSS.2.2 q h
              · exact hLL q h
          obtain ⟨t2, a1, b1⟩ := ih _ _ _ _ _ _ _ e0 p e R s m args below meth c T'.heap (locs ++ LL) (cells + (gX h1 - gX h)) (slots + (gS h1 - gS h)) Q ls hC hS' ⟨by omega, by omega⟩ (fun pc' ls9 H9 locs9 r1 r2 r3 => by
            have := hend pc' ls9 H9 locs9 r1 r2 r3
            rwa [show cells + (gX h1 - gX h) + (gX h' - gX h1) = cells + (gX h' - gX h) by omega, show slots + (gS h1 - gS h) + (gS h' - gS h1) = slots + (gS h' - gS h) by omega]) T' rfl X'
          rw [pu_eq] at a1
          exact ⟨t2, go t2 a1, b1⟩
