variable {l : Launch} {b0 : Nat} {D : va_G} {cy : Nat → ClassId} {p : Program} {e : Env} {R : Room} {s : State} {m : MethodId} {args : Array Value} {below : List Frame} {meth : Method} {c : Code} {H : Heap} {locs : List Loc} {cells slots : Nat} {Q : State → Prop} {y pc pc' : Nat} {L L' st st' : List Value} {h h' : Hp} {ls : Array Slot}

/-- the new rows: o the outer cell, then n inner ones -/
theorem mk2_old (h : Hp) (Ko Ki n k : Nat) {a : Nat} (ha : a < gX h ∨ gX h + 1 + n ≤ a) : gK (mk2 h Ko Ki n k) a = gK h a ∧ gN (mk2 h Ko Ki n k) a = gN h a ∧ gI (mk2 h Ko Ki n k) a = gI h a ∧ gJ (mk2 h Ko Ki n k) a = gJ h a ∧ gR (mk2 h Ko Ki n k) a = gR h a := by
  have e1 : a ≠ gX h := by omega
  have e2 : ¬ (gX h < a ∧ a < gX h + 1 + n) := by omega
  have e3 : ¬ (gX h ≤ a ∧ a < gX h + 1 + n) := by omega
  refine ⟨?_, ?_, ?_, ?_, ?_⟩
  · show (if a = gX h then _ else if _ then _ else _) = _
    rw [if_neg e1, if_neg e2]
  · show (if a = gX h then _ else if _ then _ else _) = _
    rw [if_neg e1, if_neg e2]
  · funext j
    exact if_neg e3
  · funext j
    exact if_neg e3
  · funext j
    show (if a = gX h then _ else if _ then _ else _) = _
    rw [if_neg e1, if_neg e2]
theorem mk2_out (h : Hp) (Ko Ki n k : Nat) : gK (mk2 h Ko Ki n k) (gX h) = Ko ∧ gN (mk2 h Ko Ki n k) (gX h) = n ∧ gR (mk2 h Ko Ki n k) (gX h) = fun j => if j < n then some (gX h + 1 + j) else none := by
  refine ⟨if_pos rfl, if_pos rfl, ?_⟩
  funext j
  exact if_pos rfl
theorem mk2_in (h : Hp) (Ko Ki n k : Nat) {j : Nat} (hj : j < n) : gK (mk2 h Ko Ki n k) (gX h + 1 + j) = Ki ∧ gN (mk2 h Ko Ki n k) (gX h + 1 + j) = k ∧ gI (mk2 h Ko Ki n k) (gX h + 1 + j) = (fun _ => 0) ∧ gJ (mk2 h Ko Ki n k) (gX h + 1 + j) = (fun _ => 0) ∧ gR (mk2 h Ko Ki n k) (gX h + 1 + j) = fun _ => none := by
  have e1 : gX h + 1 + j ≠ gX h := by omega
  have e2 : gX h < gX h + 1 + j ∧ gX h + 1 + j < gX h + 1 + n := by omega
  have e3 : gX h ≤ gX h + 1 + j ∧ gX h + 1 + j < gX h + 1 + n := by omega
  refine ⟨?_, ?_, ?_, ?_, ?_⟩
  · show (if _ = gX h then _ else if _ then _ else _) = _
    rw [if_neg e1, if_pos e2]
  · show (if _ = gX h then _ else if _ then _ else _) = _
    rw [if_neg e1, if_pos e2]
  · funext q
    exact if_pos e3
  · funext q
    exact if_pos e3
  · funext q
    show (if _ = gX h then _ else if _ then _ else _) = _
    rw [if_neg e1, if_pos e2]
theorem mk2_case (h : Hp) (n a : Nat) : (a < gX h ∨ gX h + 1 + n ≤ a) ∨ a = gX h ∨ ∃ j, j < n ∧ a = gX h + 1 + j := by
  by_cases h1 : a < gX h ∨ gX h + 1 + n ≤ a
  · exact Or.inl h1
  · by_cases h2 : a = gX h
    · exact Or.inr (Or.inl h2)
    · exact Or.inr (Or.inr ⟨a - gX h - 1, by omega, by omega⟩)
theorem cst_mk2 (hR : Rl b0 D cy H h) {Ko Ki n k : Nat} (h1 : Ko ≤ 13) (h2 : Ki ≤ 13) : Cst h (mk2 h Ko Ki n k) := by
  obtain ⟨hP, hz, hle, hb1, hk1, hk2, hk3⟩ := hR
  have h0 := mk2_old h Ko Ki n k (a := 0) (Or.inl (by omega))
  refine ⟨fun j _ => by rw [h0.2.2.2.2], fun j _ => by rw [h0.2.2.1], fun q hq => ?_, fun q hq => ?_⟩
  · rcases mk2_case h n q with e | e | ⟨j, hj, e⟩
    · rwa [(mk2_old h Ko Ki n k e).1] at hq
    · rw [e, (mk2_out h Ko Ki n k).1] at hq
      omega
    · rw [e, (mk2_in h Ko Ki n k hj).1] at hq
      omega
  · have e : q < gX h := by
      rcases Nat.lt_or_ge q (gX h) with z | z
      · exact z
      · have := hk3 q z
        omega
    obtain ⟨e1, e2, e3, e4, e5⟩ := mk2_old h Ko Ki n k (a := q) (Or.inl e)
    exact ⟨e1, e2, fun j => by rw [e3], fun j => by rw [e5]⟩
theorem Rl.push2 (hR : Rl b0 D cy H h) {H' : Heap} {Ko Ki n k : Nat} (hK1 : Ko = 11 ∨ Ko = 12 ∨ Ko = 13) (hK2 : 1 ≤ Ki ∧ Ki ≤ 13) (z : H'.size = H.size + 1 + n) (oq : ∀ q : Nat, q < H.size → H'[q]? = H[q]?) (he : H'[H.size]? = some (arrV (cy Ko) n (fun i => va_rf (if i < n then some (H.size + 1 + i) else none)))) (hi : ∀ j, j < n → va_at D vwCl (H.size + 1 + j, eCl cy Ki k (fun _ => 0) (fun _ => 0) (fun _ => none)) H') : Rl b0 D cy H' (mk2 h Ko Ki n k) := by
  obtain ⟨hP, hz, hle, hb1, hk1, hk2, hk3⟩ := hR
  rw [hz] at he hi
  refine ⟨fun q x hq => ?_, by rw [z, hz, gX_mk2], by rw [gX_mk2]; omega, hb1, fun b h1 h2 => ?_, fun b h1 h2 => ?_, fun b h1 => ?_⟩
  · obtain ⟨hkn, rfl⟩ := wsO_inv hq
    rw [gX_mk2] at hkn
    rcases mk2_case h n (b0 + q) with e | e | ⟨j, hj, e⟩
    · obtain ⟨e1, e2, e3, e4, e5⟩ := mk2_old h Ko Ki n k e
      rw [eOf_congr e1 e2 e3 e4 e5]
      exact (hP q _ (wsO_get (by omega))).kept (oq _ (by rw [hz]; omega))
    · have e9 : eOf cy (mk2 h Ko Ki n k) (b0 + q) = .inl (cy Ko, n, .inr (.inr (.inr (.inr (fun i => if i < n then some (gX h + 1 + i) else none))))) := by
        rw [e]
        unfold eOf
        obtain ⟨e1, e2, e3⟩ := mk2_out h Ko Ki n k
        rw [e1, e2, e3]
        unfold eCl
        rw [if_neg (by omega), if_neg (by omega), if_neg (by omega)]
      rw [e9, e]
      exact he
    · have e9 : eOf cy (mk2 h Ko Ki n k) (b0 + q) = eCl cy Ki k (fun _ => 0) (fun _ => 0) (fun _ => none) := by
        rw [e]
        unfold eOf
        obtain ⟨e1, e2, e3, e4, e5⟩ := mk2_in h Ko Ki n k hj
        rw [e1, e2, e3, e4, e5]
      rw [e9, e]
      exact hi j hj
  · rw [gX_mk2]
    rcases mk2_case h n b with e | e | ⟨j, hj, e⟩
    · rw [(mk2_old h Ko Ki n k e).1] at h1 h2
      have := hk1 b h1 h2
      omega
    · omega
    · omega
  · rcases mk2_case h n b with e | e | ⟨j, hj, e⟩
    · rw [(mk2_old h Ko Ki n k e).1]
      rw [gX_mk2] at h2
      exact hk2 b h1 (by omega)
    · rw [e, (mk2_out h Ko Ki n k).1]
      omega
    · rw [e, (mk2_in h Ko Ki n k hj).1]
      exact hK2
  · rw [gX_mk2] at h1
    rw [(mk2_old h Ko Ki n k (a := b) (Or.inr (by omega))).1]
    exact hk3 b (by omega)
theorem mna_row {ty : FieldType} {Ko Ki i : Nat} {n k : Int32} {rest : List Value} (hx : p.tables.exec = Jvm.exec) (hb : c.code = bts y) (hown : s.vm.findClass (onm (ow y)) = some m.cls) (hcl : (Cond.classLink (onm (ow y)) i ("[" ++ (FieldType.array ty).toString)).before args s = true) (hover : (Cond.arrayOver (.array ty)).before args s = true) (harr : (Cond.arrayClass ty).before args s = true)
    (hco : s.vm.findClass ("[" ++ (FieldType.array ty).toString) = some (cy Ko)) (hcy : s.vm.findClass (FieldType.array ty).toString = some (cy Ki)) (hdf : fits ty (defaultValue ty) = true) (hdd : (defaultValue ty).isDefault = true) (hcb : componentBytes ty ≤ 8) (hin : ∀ (H' : Heap) (a kk : Nat), H'[a]? = some (Jvm.Free.Multi.innerC (cy Ki) kk (defaultValue ty)) → va_at D vwCl (a, eCl cy Ki kk (fun _ => 0) (fun _ => 0) (fun _ => none)) H')
    (hR : Rl b0 D cy H h) (hSS : va_S (fun q => b0 ≤ q) s.heap H locs) (hL : LR y ls L) (hCn : Cn b0 s s.heap h) (hK1 : Ko = 11 ∨ Ko = 12 ∨ Ko = 13) (hK2 : 1 ≤ Ki ∧ Ki ≤ 13) (hn : ¬ n < 0) (hk : ¬ k < 0) (hn1 : n.toNatClampNeg ≤ 1000) (hk1 : k.toNatClampNeg ≤ 1000) (hd : decode (bts y) pc = .ok (.multianewarray i 2, 4))
    (hrm : cells + (1 + n.toNatClampNeg) ≤ R.cells ∧ slots + (n.toNatClampNeg + n.toNatClampNeg * k.toNatClampNeg) ≤ R.slots)
    (kk : ∀ (H' : Heap), Stt b0 D cy s y H' locs ls L (mk2 h Ko Ki n.toNatClampNeg k.toNatClampNeg) → W p l e R s m args below meth c H' locs (cells + 1 + n.toNatClampNeg) (slots + n.toNatClampNeg + n.toNatClampNeg * k.toNatClampNeg) Q (F0 m (pc + 4) ls (.ref (gX h) :: rest))) : W p l e R s m args below meth c H locs cells slots Q (F0 m pc ls (.int k :: .int n :: rest)) := by
  have hz := hR.2.1
  intro T hT Xs
  have hmul : k.toNatClampNeg * componentBytes ty ≤ 1000 * 8 := Nat.mul_le_mul hk1 hcb
  obtain ⟨vm₁, cA, comp, -, fA, fC, hO, -, X', step⟩ := Xs.multianewarray2F hx hown hcl hover harr (g := F0 m pc ls (.int k :: .int n :: rest)) rfl (by rw [hb]; exact hd) rfl hn hk (by omega) (by omega) (by omega) hdf hdd hrm.1 hrm.2
  have ec : comp = cy Ki := Option.some.inj (fC.symm.trans hcy)
  subst ec
  have eo : cA = cy Ko := Option.some.inj (fA.symm.trans hco)
  subst eo
  generalize hF : Jvm.Free.Multi.fill (T.setVm vm₁) (cy Ko) (cy Ki) n.toNatClampNeg k.toNatClampNeg (defaultValue ty) n.toNatClampNeg = F at X' step
  have hTh : (T.setVm vm₁).heap = H := hT
  obtain ⟨f1, f2, -, -⟩ := Jvm.Free.Multi.fill_facts (T.setVm vm₁) (cy Ko) (cy Ki) n.toNatClampNeg k.toNatClampNeg (defaultValue ty) n.toNatClampNeg
  rw [hF, hTh] at f1 f2
  have hold : ∀ x : Nat, x < H.size → F.heap[x]? = H[x]? := fun x hx => by
    have := Jvm.Free.Multi.fill_old (T.setVm vm₁) (cy Ko) (cy Ki) n.toNatClampNeg k.toNatClampNeg (defaultValue ty) (a := x) (by rw [hTh]; exact hx) n.toNatClampNeg
    rw [hF, hTh] at this
    exact this
  have hrow : ∀ j : Nat, j < n.toNatClampNeg → F.heap[H.size + 1 + j]? = some (Jvm.Free.Multi.innerC (cy Ki) k.toNatClampNeg (defaultValue ty)) := fun j hj => by
    have := Jvm.Free.Multi.fill_inner (T.setVm vm₁) (cy Ko) (cy Ki) n.toNatClampNeg k.toNatClampNeg (defaultValue ty) n.toNatClampNeg j hj
    rw [hF, hTh] at this
    exact this
  rw [vr_outer (cy Ko) n.toNatClampNeg H.size n.toNatClampNeg] at f2
  obtain ⟨t, a1, b1⟩ := kk F.heap ⟨hL, hR.push2 hK1 hK2 f1 hold f2 (fun j hj => hin _ _ _ (hrow j hj)), hSS.grow (by omega) hold, hCn.cst (cst_mk2 hR (by omega) hK2.2)⟩ F rfl X'
  refine ⟨t, step t ?_, b1⟩
  have e : T.heap.size = gX h := by rw [hT]; exact hz
  rw [e]
  exact a1

theorem jk_multianewarray {i d : Nat} (hC : Ctx b0 D cy p R s m args meth c y) (hS : Stt b0 D cy s y H locs ls L h) (hd : decode (bts y) pc = .ok (.multianewarray i d, 4)) (ha : sxx y pc (.multianewarray i d) L st h = aJ pc' L' st' h') (hrm : cells + (gX h' - gX h) ≤ R.cells ∧ slots + (gS h' - gS h) ≤ R.slots) (kk : ∀ (ls' : Array Slot) (H' : Heap) (locs' : List Loc), Stt b0 D cy s y H' locs' ls' L' h' → W p l e R s m args below meth c H' locs' (cells + (gX h' - gX h)) (slots + (gS h' - gS h)) Q (F0 m pc' ls' st')) : W p l e R s m args below meth c H locs cells slots Q (F0 m pc ls st) := by
  obtain ⟨hx, hb, hml, hown, hts, hb0, hK, hfr, hlo, hnm⟩ := hC
  simp only [sxx] at ha
  split at ha
  · rename_i q hq
    split at ha
    · rename_i k n st9
      split at ha
      · rename_i hc
        simp only [aJ, Option.some.injEq, Sum.inr.injEq, Sum.inl.injEq, Prod.mk.injEq] at ha
        obtain ⟨rfl, rfl, rfl, rfl⟩ := ha
        simp only [gX_mk2, gS_mk2] at hrm kk
        obtain ⟨hd2, h0, h1, h2, h3, h4⟩ := hc
        subst hd2
        obtain ⟨hL, hR, hSS, hCn⟩ := id hS
        have hl := hts _ (cs_link hq)
        have kk9 : ∀ (H' : Heap), Stt b0 D cy s y H' locs ls L (mk2 h q.1 (q.1 - 4) n.toNatClampNeg k.toNatClampNeg) → W p l e R s m args below meth c H' locs (cells + 1 + n.toNatClampNeg) (slots + n.toNatClampNeg + n.toNatClampNeg * k.toNatClampNeg) Q (F0 m (pc + 4) ls (.ref (gX h) :: st9)) := fun H' hS' => by
          have := kk _ H' _ hS'
          rwa [show gX h + 1 + n.toNatClampNeg - gX h = 1 + n.toNatClampNeg by omega, show gS h + n.toNatClampNeg + n.toNatClampNeg * k.toNatClampNeg - gS h = n.toNatClampNeg + n.toNatClampNeg * k.toNatClampNeg by omega, ← Nat.add_assoc, ← Nat.add_assoc] at this
        have hrm9 : cells + (1 + n.toNatClampNeg) ≤ R.cells ∧ slots + (n.toNatClampNeg + n.toNatClampNeg * k.toNatClampNeg) ≤ R.slots := by
          constructor
          · have := hrm.1
            omega
          · have := hrm.2
            omega
        rcases h0 with h0 | h0
        · rw [h0] at kk9 hl
          exact mna_row (ty := .int) (Ko := 12) (Ki := 8) hx hb hown hl hCn.2.2.2.2.2.2.2.1 (hts _ ac_link.1) (hK.2 4 _ rfl).2 (hK.2 0 _ rfl).2 rfl rfl (by decide) (fun H' a k9 h9 => by
            show H'[a]? = some (vp_cell _ _)
            rw [h9, vp_cell_i, ← arrV_new]
            rfl) hR hSS hL hCn (by omega) (by omega) h1 h2 h3 h4 hd hrm9 kk9
        · rw [h0] at kk9 hl
          exact mna_row (ty := .long) (Ko := 13) (Ki := 9) hx hb hown hl hCn.2.2.2.2.2.2.2.2 (hts _ ac_link.2.1) (hK.2 5 _ rfl).2 (hK.2 1 _ rfl).2 rfl rfl (by decide) (fun H' a k9 h9 => by
            show H'[a]? = some (vp_cell _ _)
            rw [h9, vp_cell_l, ← arrV_new]
            rfl) hR hSS hL hCn (by omega) (by omega) h1 h2 h3 h4 hd hrm9 kk9
      · cases ha
    · cases ha
  · cases ha

