/-! the constant part stays, from the abstract heap alone; SOUNDNESS -/
def Wfh (b0 : Nat) (h : Hp) : Prop := b0 ≤ gX h ∧ 1 ≤ b0 ∧ (∀ a, 1 ≤ gK h a → gK h a ≤ 13 → b0 ≤ a ∧ a < gX h) ∧ (∀ a, b0 ≤ a → a < gX h → 1 ≤ gK h a ∧ gK h a ≤ 13) ∧ (∀ a, gX h ≤ a → gK h a = 0)
theorem Rl.wf {b0 : Nat} {D : va_G} {cy : Nat → ClassId} {H : Heap} {h : Hp} (hR : Rl b0 D cy H h) : Wfh b0 h := ⟨hR.2.2.1, hR.2.2.2.1, hR.2.2.2.2.1, hR.2.2.2.2.2.1, hR.2.2.2.2.2.2⟩
def Cw (b0 : Nat) (h h' : Hp) : Prop := Cst h h' ∧ Wfh b0 h'
theorem Cw.rf {b0 : Nat} {h : Hp} (hw : Wfh b0 h) : Cw b0 h h := ⟨Cst.rf h, hw⟩
theorem Cw.i {b0 : Nat} {h : Hp} (hw : Wfh b0 h) {a k : Nat} {v : Int32} (h1 : 1 ≤ gK h a ∧ gK h a ≤ 13) : Cw b0 h (pI h a k v) := by
  have h0 : a ≠ 0 := by have := hw.2.2.1 a h1.1 h1.2; have := hw.2.1; omega
  refine ⟨⟨fun j _ => rfl, fun j _ => ?_, fun q hq => hq, fun q hq => ⟨rfl, rfl, fun j => ?_, fun j => rfl⟩⟩, hw⟩
  · show (if 0 = a ∧ j = k then v else gI h 0 j) = _
    rw [if_neg (fun z => h0 z.1.symm)]
  · show (if q = a ∧ j = k then v else gI h q j) = _
    rw [if_neg (fun z => by have := z.1; subst this; omega)]
theorem Cw.j {b0 : Nat} {h : Hp} (hw : Wfh b0 h) {a k : Nat} {v : Int64} : Cw b0 h (pJ h a k v) := ⟨cst_pJ, hw⟩
theorem Cw.r {b0 : Nat} {h : Hp} (hw : Wfh b0 h) {a k : Nat} {v : Option Nat} (h1 : 1 ≤ gK h a ∧ gK h a ≤ 13) : Cw b0 h (pR h a k v) := by
  have h0 : a ≠ 0 := by have := hw.2.2.1 a h1.1 h1.2; have := hw.2.1; omega
  refine ⟨⟨fun j _ => ?_, fun j _ => rfl, fun q hq => hq, fun q hq => ⟨rfl, rfl, fun j => rfl, fun j => ?_⟩⟩, hw⟩
  · show (if 0 = a ∧ j = k then v else gR h 0 j) = _
    rw [if_neg (fun z => h0 z.1.symm)]
  · show (if q = a ∧ j = k then v else gR h q j) = _
    rw [if_neg (fun z => by have := z.1; subst this; omega)]
theorem Cw.ci {b0 : Nat} {h : Hp} (hw : Wfh b0 h) {a sp d dp n : Nat} (h1 : 1 ≤ gK h d ∧ gK h d ≤ 13) : Cw b0 h (cpI h a sp d dp n) := by
  have h0 : d ≠ 0 := by have := hw.2.2.1 d h1.1 h1.2; have := hw.2.1; omega
  refine ⟨⟨fun j _ => rfl, fun j _ => ?_, fun q hq => hq, fun q hq => ⟨rfl, rfl, fun j => ?_, fun j => rfl⟩⟩, hw⟩
  · show (if 0 = d ∧ dp ≤ j ∧ j < dp + n then _ else gI h 0 j) = _
    rw [if_neg (fun z => h0 z.1.symm)]
  · show (if q = d ∧ dp ≤ j ∧ j < dp + n then _ else gI h q j) = _
    rw [if_neg (fun z => by have := z.1; subst this; omega)]
theorem Cw.cj {b0 : Nat} {h : Hp} (hw : Wfh b0 h) {a sp d dp n : Nat} : Cw b0 h (cpJ h a sp d dp n) := ⟨cst_cpJ, hw⟩
theorem Cw.m1 {b0 : Nat} {h : Hp} (hw : Wfh b0 h) {K N n : Nat} (hK : 1 ≤ K ∧ K ≤ 13) : Cw b0 h (mk1 h K N n) := by
  obtain ⟨hle, hb1, hk1, hk2, hk3⟩ := hw
  have h0 : (0 : Nat) ≠ gX h := by omega
  refine ⟨⟨fun j _ => by rw [mk1_R h K N n h0], fun j _ => by rw [mk1_I h K N n h0], fun q hq => ?_, fun q hq => ?_⟩, by rw [gX_mk1]; omega, hb1, fun b h1 h2 => ?_, fun b h1 h2 => ?_, fun b h1 => ?_⟩
  · by_cases e : q = gX h
    · subst e
      rw [mk1_K0] at hq
      omega
    · rwa [mk1_K h K N n e] at hq
  · have e : q ≠ gX h := fun z => by
      have := hk3 q (by omega)
      omega
    exact ⟨mk1_K h K N n e, mk1_N h K N n e, fun j => by rw [mk1_I h K N n e], fun j => by rw [mk1_R h K N n e]⟩
  · rw [gX_mk1]
    by_cases e : b = gX h
    · omega
    · rw [mk1_K h K N n e] at h1 h2
      have := hk1 b h1 h2
      omega
  · rw [gX_mk1] at h2
    by_cases e : b = gX h
    · subst e
      rw [mk1_K0]
      exact hK
    · rw [mk1_K h K N n e]
      exact hk2 b h1 (by omega)
  · rw [gX_mk1] at h1
    rw [mk1_K h K N n (by omega)]
    exact hk3 b (by omega)
theorem Cw.m2 {b0 : Nat} {h : Hp} (hw : Wfh b0 h) {Ko Ki n k : Nat} (hK : 1 ≤ Ko ∧ Ko ≤ 13) (hK2 : 1 ≤ Ki ∧ Ki ≤ 13) : Cw b0 h (mk2 h Ko Ki n k) := by
  obtain ⟨hle, hb1, hk1, hk2, hk3⟩ := hw
  have h0 := mk2_old h Ko Ki n k (a := 0) (Or.inl (by omega))
  refine ⟨⟨fun j _ => by rw [h0.2.2.2.2], fun j _ => by rw [h0.2.2.1], fun q hq => ?_, fun q hq => ?_⟩, by rw [gX_mk2]; omega, hb1, fun b h1 h2 => ?_, fun b h1 h2 => ?_, fun b h1 => ?_⟩
  · rcases mk2_case h n q with e | e | ⟨j, hj, e⟩
    · rwa [(mk2_old h Ko Ki n k e).1] at hq
    · rw [e, (mk2_out h Ko Ki n k).1] at hq
      omega
    · rw [e, (mk2_in h Ko Ki n k hj).1] at hq
      omega
  · have e : q < gX h := by
      rcases Nat.lt_or_ge q (gX h) with z | z
      · exact z
      · have := hk3 q z
        omega
    obtain ⟨e1, e2, e3, e4, e5⟩ := mk2_old h Ko Ki n k (a := q) (Or.inl e)
    exact ⟨e1, e2, fun j => by rw [e3], fun j => by rw [e5]⟩
  · rw [gX_mk2]
    rcases mk2_case h n b with e | e | ⟨j, hj, e⟩
    · rw [(mk2_old h Ko Ki n k e).1] at h1 h2
      have := hk1 b h1 h2
      omega
    · omega
    · omega
  · rcases mk2_case h n b with e | e | ⟨j, hj, e⟩
    · rw [(mk2_old h Ko Ki n k e).1]
      rw [gX_mk2] at h2
      exact hk2 b h1 (by omega)
    · rw [e, (mk2_out h Ko Ki n k).1]
      exact hK
    · rw [e, (mk2_in h Ko Ki n k hj).1]
      exact hK2
  · rw [gX_mk2] at h1
    rw [(mk2_old h Ko Ki n k (a := b) (Or.inr (by omega))).1]
    exact hk3 b (by omega)
theorem kdt_in {t : ArrayType} (h : kdt t ≠ 0) : 1 ≤ kdt t ∧ kdt t ≤ 13 := by cases t <;> simp [kdt] at h ⊢
theorem acl_cw {b0 y pc : Nat} {L st : List Value} {h : Hp} {q : Nat × Nat × Nat × Nat} {sp stt : Bool} {j : Jmp} (hw : Wfh b0 h) (ha : acl y q sp stt L st h pc = some (.inr (.inl j))) : Cw b0 h j.2.2.2 := by
  unfold acl at ha
  repeat' split at ha
  all_goals (try unfold aC2 at ha)
  all_goals (try split at ha)
  all_goals first
    | (simp only [aJ, Option.some.injEq, Sum.inr.injEq, Sum.inl.injEq] at ha; subst ha; first | exact Cw.rf hw | exact Cw.ci hw (by omega) | exact Cw.cj hw | (dsimp only; split; exact Cw.ci hw (by omega); exact Cw.cj hw))
    | (simp [aJ, aC] at ha)
theorem act_cw {b0 y pc : Nat} {L st : List Value} {h : Hp} {j : Jmp} (hw : Wfh b0 h) (ha : act y pc L st h = some (.inr (.inl j))) : Cw b0 h j.2.2.2 := by
  unfold act at ha
  split at ha
  · cases ha
  · rename_i ins len hd
    split at ha
    · cases ins with
      | putfield i =>
        simp only [sxx] at ha
        split at ha
        · split at ha
          · split at ha
            · rename_i h9 hp
              simp only [aJ, Option.some.injEq, Sum.inr.injEq, Sum.inl.injEq] at ha
              subst ha
              obtain ⟨hci, hk, -, -, hv⟩ := ptf_spec hp
              rcases hv with ⟨-, w, -, rfl⟩ | ⟨-, x, -, rfl, -⟩
              · exact Cw.r hw (by omega)
              · exact Cw.i hw (by omega)
            · cases ha
          · cases ha
        · cases ha
      | invokevirtual i =>
        simp only [sxx] at ha
        split at ha
        · exact acl_cw hw ha
        · cases ha
      | invokespecial i =>
        simp only [sxx] at ha
        split at ha
        · exact acl_cw hw ha
        · cases ha
      | invokestatic i =>
        simp only [sxx] at ha
        split at ha
        · exact acl_cw hw ha
        · cases ha
      | newarray t =>
        simp only [sxx] at ha
        split at ha
        · split at ha
          · rename_i hc
            simp only [aJ, Option.some.injEq, Sum.inr.injEq, Sum.inl.injEq] at ha
            subst ha
            exact Cw.m1 hw (kdt_in hc.2.2)
          · cases ha
        · cases ha
      | _ =>
        simp only [sxx] at ha
        repeat' split at ha
        all_goals first
          | (simp only [aJ, Option.some.injEq, Sum.inr.injEq, Sum.inl.injEq] at ha; subst ha; first | exact Cw.rf hw | exact Cw.i hw (by omega) | exact Cw.j hw | exact Cw.r hw (by omega) | exact Cw.m1 hw (by omega) | exact Cw.m2 hw (by omega) (by omega))
          | (simp [aD] at ha)
          | cases ha
    · cases ha
theorem exec_cw {b0 : Nat} : ∀ (n y pc : Nat) (L st : List Value) (h : Hp) (r : Option Value) (h' : Hp), Wfh b0 h → exec n y pc L st h = some (r, h') → Cw b0 h h' := by
  intro n
  induction n with
  | zero => intro y pc L st h r h' hw e; simp [exec] at e
  | succ n ih =>
    intro y pc L st h r h' hw e
    rw [exec] at e
    cases ha : act y pc L st h with
    | none => rw [ha] at e; simp at e
    | some a =>
      rw [ha] at e
      match a, ha, e with
      | .inl r9, ha, e => cases e; exact Cw.rf hw
      | .inr (.inl q), ha, e =>
        have h1 := act_cw hw ha
        have h2 := ih _ _ _ _ _ _ _ h1.2 e
        exact ⟨h1.1.tr h2.1, h2.2⟩
      | .inr (.inr q), ha, e =>
        dsimp only at e
        cases hb : exec n q.1 0 (eL q.1 q.2.1) [] h with
        | none => rw [hb] at e; simp at e
        | some z =>
          rw [hb] at e
          obtain ⟨z1, z2⟩ := z
          have h1 := ih _ _ _ _ _ _ _ hw hb
          have h2 := ih _ _ _ _ _ _ _ h1.2 e
          exact ⟨h1.1.tr h2.1, h2.2⟩
/-- what the walk of a run owes -/
def Rund (l : Launch) (b0 : Nat) (D : va_G) (cy : Nat → ClassId) (y pc : Nat) (L st : List Value) (h : Hp) (r : Option Value) (h' : Hp) : Prop :=
  ∀ (p : Program) (e : Env) (R : Room) (s : State) (m : MethodId) (args : Array Value) (below : List Frame) (meth : Method) (c : Code) (H : Heap) (locs : List Loc) (cells slots : Nat) (Q : State → Prop) (ls : Array Slot),
    Ctx b0 D cy p R s m args meth c y → Stt b0 D cy s y H locs ls L h → (cells + (gX h' - gX h) ≤ R.cells ∧ slots + (gS h' - gS h) ≤ R.slots) →
    (∀ (pc' : Nat) (ls' : Array Slot) (H' : Heap) (locs' : List Loc), RI y pc' r → Rl b0 D cy H' h' → va_S (fun q => b0 ≤ q) s.heap H' locs' → W p l e R s m args below meth c H' locs' (cells + (gX h' - gX h)) (slots + (gS h' - gS h)) Q (F0 m pc' ls' r.toList)) →
    W p l e R s m args below meth c H locs cells slots Q (F0 m pc ls st)
theorem met_of {l : Launch} {b0 : Nat} {D : va_G} {cy : Nat → ClassId} {z : Nat} {as : List Value} {h h1 : Hp} {r1 : Option Value} (hz : z < 251) (hpl : plainName (nmo z).cls = true) (hago : ago z as = true) (hrun : Rund l b0 D cy z 0 (eL z as) [] h r1 h1) :
    Met l (nmo z) (wso z) { frames := frm z, cells := gX h1 - gX h, slots := gS h1 - gS h, locals := lom z } (va_Pc as (fun U => Ent b0 D cy U h)) (fun _ st o t => o = .returned r1 ∧ Rl b0 D cy t.heap h1 ∧ va_F (fun q => b0 ≤ q) st t) (gX h1 - gX h) (gS h1 - gS h) (fun q => b0 ≤ q) := by
  refine Met.ofW (cc := bts z) (maxL := mxl z) (ret := rty z) hpl rfl ?_
  intro p e s m args below meth c s₁ B hml hv
  obtain ⟨rfl, hb0, hK, hR, hCn⟩ := hv
  have hts := atoms_spec (ws := wso z) B.pre
  have hown : s.vm.findClass (nmo z).cls = some m.cls := findClass_of_methodNamed B.named
  rw [(nm_all z (by omega)).1] at hown
  have hx := B.exec
  have hb := B.bytes
  have hr := B.returns
  have hlocks := B.notSynchronized
  rw [lg_entry_eq]
  refine hrun p e _ s m as.toArray below meth c s.heap [] 0 0 _ _ ⟨hx, hb, hml, hown, fun w hw => hts w (List.mem_cons_of_mem _ hw), hb0, hK, Nat.le_refl _, Nat.le_refl _, fun h => (name_of_methodNamed B.named B.method).1.trans h⟩ ⟨LR_entry hago, hR, va_S.rf, hCn⟩ ⟨Nat.le_of_eq (Nat.zero_add _), Nat.le_of_eq (Nat.zero_add _)⟩ ?_
  intro pc' ls' H' locs' hRI hR' hS'
  rw [Nat.zero_add, Nat.zero_add]
  match r1, hRI with
  | none, hRI => exact W.vret hx hb (hr.trans hRI.2) (fun t ht hW => ⟨rfl, by rw [ht]; exact hR', hS'.F ht⟩) hS'.2.2 hRI.1 hlocks
  | some (.int v), hRI =>
    obtain ⟨hd, t, ht, hn⟩ := hRI
    exact W.zret hx hb (hr.trans ht) hn (fun t ht hW => ⟨rfl, by rw [ht]; exact hR', hS'.F ht⟩) hS'.2.2 hd hlocks
  | some (.long v), hRI => exact W.lret hx hb (hr.trans hRI.2) (fun t ht hW => ⟨rfl, by rw [ht]; exact hR', hS'.F ht⟩) hS'.2.2 hRI.1 hlocks
  | some (.ref a), hRI =>
    obtain ⟨hd, n, hn⟩ := hRI
    exact W.aret hx hb (hr.trans hn) (Or.inl ⟨n, rfl⟩) (Or.inr ⟨a, rfl⟩) (fun t ht hW => ⟨rfl, by rw [ht]; exact hR', hS'.F ht⟩) hS'.2.2 hd hlocks
theorem pu_eq (r : Option Value) (st : List Value) : pu r st = r.toList ++ st := by cases r <;> rfl
theorem Ent.blind {b0 : Nat} {D : va_G} {cy : Nat → ClassId} {h : Hp} (as : List Value) : FrameBlind (va_Pc as (fun U => Ent b0 D cy U h)) := by
  intro a U g mk q
  obtain ⟨q0, q1, qK, qR, qC⟩ := q
  exact ⟨q0, q1, va_K.moved (u := U) (U := U.calling g mk a) (Vm.Alike.refl U.vm) qK, qR, Cn.same (s := U) rfl qC⟩
theorem Stt.ent {b0 : Nat} {D : va_G} {cy : Nat → ClassId} {s : State} {y : Nat} {H : Heap} {locs : List Loc} {ls : Array Slot} {L : List Value} {h : Hp} (hb0 : b0 ≤ s.heap.size) (hK : va_K D vwCl (tysO cy) s) (hS : Stt b0 D cy s y H locs ls L h) (U : State) (hU : U.heap = H) (hW : s.WarmedH U.vm) : Ent b0 D cy U h := by
  obtain ⟨hL, hR, hSS, hCn⟩ := hS
  refine ⟨by rw [hU]; exact Nat.le_trans hb0 hSS.1, va_K.moved hW.alike hK, by rw [hU]; exact hR, ?_⟩
  rw [hU]
  exact (hCn.kept hSS.2.1).warm hW
