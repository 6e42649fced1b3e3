variable {l : Launch} {b0 : Nat} {D : va_G} {cy : Nat → ClassId} {p : Program} {e : Env} {R : Room} {s : State} {m : MethodId} {args : Array Value} {below : List Frame} {meth : Method} {c : Code} {H : Heap} {locs : List Loc} {cells slots : Nat} {Q : State → Prop} {y pc pc' : Nat} {L L' st st' : List Value} {h h' : Hp} {ls : Array Slot}

theorem gX_pI (h : Hp) (a k : Nat) (v : Int32) : gX (pI h a k v) = gX h := rfl
theorem gS_pI (h : Hp) (a k : Nat) (v : Int32) : gS (pI h a k v) = gS h := rfl
theorem gX_pJ (h : Hp) (a k : Nat) (v : Int64) : gX (pJ h a k v) = gX h := rfl
theorem gS_pJ (h : Hp) (a k : Nat) (v : Int64) : gS (pJ h a k v) = gS h := rfl
theorem gX_pR (h : Hp) (a k : Nat) (v : Option Nat) : gX (pR h a k v) = gX h := rfl
theorem gS_pR (h : Hp) (a k : Nat) (v : Option Nat) : gS (pR h a k v) = gS h := rfl
theorem gX_cpI (h : Hp) (a sp c dp n : Nat) : gX (cpI h a sp c dp n) = gX h := rfl
theorem gS_cpI (h : Hp) (a sp c dp n : Nat) : gS (cpI h a sp c dp n) = gS h := rfl
theorem gX_cpJ (h : Hp) (a sp c dp n : Nat) : gX (cpJ h a sp c dp n) = gX h := rfl
theorem gS_cpJ (h : Hp) (a sp c dp n : Nat) : gS (cpJ h a sp c dp n) = gS h := rfl
theorem jk_getfield {i : Nat} (hC : Ctx b0 D cy p R s m args meth c y) (hS : Stt b0 D cy s y H locs ls L h) (hd : decode (bts y) pc = .ok (.getfield i, 3)) (ha : sxx y pc (.getfield i) L st h = aJ pc' L' st' h') (hrm : cells + (gX h' - gX h) ≤ R.cells ∧ slots + (gS h' - gS h) ≤ R.slots) (kk : ∀ (ls' : Array Slot) (H' : Heap) (locs' : List Loc), Stt b0 D cy s y H' locs' ls' L' h' → W p l e R s m args below meth c H' locs' (cells + (gX h' - gX h)) (slots + (gS h' - gS h)) Q (F0 m pc' ls' st')) : W p l e R s m args below meth c H locs cells slots Q (F0 m pc ls st) := by
  obtain ⟨hx, hb, hml, hown, hts, hb0, hK, hfr, hlo, hnm⟩ := hC
  simp only [sxx] at ha
  split at ha
  · rename_i q hq
    split at ha
    · split at ha
      · rename_i hci
        split at ha
        · rename_i hk
          simp only [aJ, Option.some.injEq, Sum.inr.injEq, Sum.inl.injEq, Prod.mk.injEq] at ha
          obtain ⟨rfl, rfl, rfl, rfl⟩ := ha
          simp only [Nat.sub_self, Nat.add_zero] at kk
          obtain ⟨hL, hR, hSS, hCn⟩ := id hS
          exact va_get (D := D) (cl := vwCl) hx hb hts (inO q.1 hci) hown hK (hR.obj hci hk.1) 0 rfl (cO_at q.1 hci) q.2.1 (by rw [cO_n q.1 hci]; exact hk.2) (hts _ (fd_link hq hci)) (fun _ h9 => h9) (fls_get hk.2) hd (kk _ _ _ hS)
        · cases ha
      · rename_i hci
        split at ha
        · rename_i hk
          simp only [aJ, Option.some.injEq, Sum.inr.injEq, Sum.inl.injEq, Prod.mk.injEq] at ha
          obtain ⟨rfl, rfl, rfl, rfl⟩ := ha
          simp only [Nat.sub_self, Nat.add_zero] at kk
          obtain ⟨hL, hR, hSS, hCn⟩ := id hS
          obtain ⟨g1, g2, g3⟩ := hCn.2.2.2.1 _ hk.1
          have hl := hts _ (fd_linkS hq hci)
          by_cases e : q.2.1 = 0
          · rw [if_pos e] at kk
            rw [if_pos e, if_pos e] at hl
            exact vk_getf hx hb g2 hSS hown hl (fun _ h9 => h9) hd (kk _ _ _ hS)
          · rw [if_neg e] at kk
            rw [if_neg e, if_neg e] at hl
            exact vk_getf hx hb g3 hSS hown hl (fun _ h9 => h9) hd (kk _ _ _ hS)
        · cases ha
    · cases ha
  · cases ha

theorem jk_getstatic {i : Nat} (hC : Ctx b0 D cy p R s m args meth c y) (hS : Stt b0 D cy s y H locs ls L h) (hd : decode (bts y) pc = .ok (.getstatic i, 3)) (ha : sxx y pc (.getstatic i) L st h = aJ pc' L' st' h') (hrm : cells + (gX h' - gX h) ≤ R.cells ∧ slots + (gS h' - gS h) ≤ R.slots) (kk : ∀ (ls' : Array Slot) (H' : Heap) (locs' : List Loc), Stt b0 D cy s y H' locs' ls' L' h' → W p l e R s m args below meth c H' locs' (cells + (gX h' - gX h)) (slots + (gS h' - gS h)) Q (F0 m pc' ls' st')) : W p l e R s m args below meth c H locs cells slots Q (F0 m pc ls st) := by
  obtain ⟨hx, hb, hml, hown, hts, hb0, hK, hfr, hlo, hnm⟩ := hC
  simp only [sxx] at ha
  split at ha
  · rename_i q hq
    split at ha
    · rename_i w hw
      simp only [aJ, Option.some.injEq, Sum.inr.injEq, Sum.inl.injEq, Prod.mk.injEq] at ha
      obtain ⟨rfl, rfl, rfl, rfl⟩ := ha
      simp only [Nat.sub_self, Nat.add_zero] at kk
      obtain ⟨hL, hR, hSS, hCn⟩ := id hS
      have h1 := List.all_eq_true.mp sc_ok1 _ (tf_mem hq)
      unfold scC at h1
      rw [hw] at h1
      dsimp only at h1
      by_cases e : q.2.1 = 0
      · rw [if_pos e] at h1
        exact va_gets hx hb (hCn.1 q.1 w hw) hSS hown (hts _ (gtb_of (of_decide_eq_true h1) rfl)) (fun _ h9 => h9) hd (kk _ _ _ hS)
      · rw [if_neg e] at h1
        have hm : Cond.fieldLinkNest (onm (ow y)) i w.1 w.2.1 w.2.2.1 "BootSale" ∈ nestW := List.mem_filter.mpr ⟨List.mem_of_getElem? (of_decide_eq_true h1), rfl⟩
        exact va_getsN hx hb (hCn.1 q.1 w hw) hSS hown (va_Nw.use rfl (hCn.2.2.2.2.2.1 _ hm)) (fun _ h9 => h9) hd (kk _ _ _ hS)
    · cases ha
  · cases ha

theorem jk_iaload (hC : Ctx b0 D cy p R s m args meth c y) (hS : Stt b0 D cy s y H locs ls L h) (hd : decode (bts y) pc = .ok (.iaload, 1)) (ha : sxx y pc (.iaload) L st h = aJ pc' L' st' h') (hrm : cells + (gX h' - gX h) ≤ R.cells ∧ slots + (gS h' - gS h) ≤ R.slots) (kk : ∀ (ls' : Array Slot) (H' : Heap) (locs' : List Loc), Stt b0 D cy s y H' locs' ls' L' h' → W p l e R s m args below meth c H' locs' (cells + (gX h' - gX h)) (slots + (gS h' - gS h)) Q (F0 m pc' ls' st')) : W p l e R s m args below meth c H locs cells slots Q (F0 m pc ls st) := by
  obtain ⟨hx, hb, hml, hown, hts, hb0, hK, hfr, hlo, hnm⟩ := hC
  simp only [sxx] at ha
  split at ha
  · rename_i j a st9
    split at ha
    · rename_i hk
      obtain ⟨hk, hi⟩ := hk
      simp only [aJ, Option.some.injEq, Sum.inr.injEq, Sum.inl.injEq, Prod.mk.injEq] at ha
      obtain ⟨rfl, rfl, rfl, rfl⟩ := ha
      simp only [Nat.sub_self, Nat.add_zero] at kk
      obtain ⟨hL, hR, hSS, hCn⟩ := id hS
      rcases hk with hk | hk
      · exact W.iald hx hb (hR.ai hk) ((hK.2 0 _ rfl).1 _ (fun j => .int (gI h a j))) (fun q => by cases q) (by show ¬ (_ < 0 ∨ (arrV _ _ _).slots.size ≤ _); rw [arrV_size]; exact hi) (arrV_read _ _ (Nat.not_le.mp fun q => hi (Or.inr q))) rfl rfl hd (kk _ _ _ hS)
      · exact va_ti hx hb (hCn.2.1 _ hk) hSS hi rfl hd (kk _ _ _ hS)
    · cases ha
  · cases ha

theorem jk_laload (hC : Ctx b0 D cy p R s m args meth c y) (hS : Stt b0 D cy s y H locs ls L h) (hd : decode (bts y) pc = .ok (.laload, 1)) (ha : sxx y pc (.laload) L st h = aJ pc' L' st' h') (hrm : cells + (gX h' - gX h) ≤ R.cells ∧ slots + (gS h' - gS h) ≤ R.slots) (kk : ∀ (ls' : Array Slot) (H' : Heap) (locs' : List Loc), Stt b0 D cy s y H' locs' ls' L' h' → W p l e R s m args below meth c H' locs' (cells + (gX h' - gX h)) (slots + (gS h' - gS h)) Q (F0 m pc' ls' st')) : W p l e R s m args below meth c H locs cells slots Q (F0 m pc ls st) := by
  obtain ⟨hx, hb, hml, hown, hts, hb0, hK, hfr, hlo, hnm⟩ := hC
  simp only [sxx] at ha
  split at ha
  · rename_i j a st9
    split at ha
    · rename_i hk
      obtain ⟨hk, hi⟩ := hk
      simp only [aJ, Option.some.injEq, Sum.inr.injEq, Sum.inl.injEq, Prod.mk.injEq] at ha
      obtain ⟨rfl, rfl, rfl, rfl⟩ := ha
      simp only [Nat.sub_self, Nat.add_zero] at kk
      obtain ⟨hL, hR, hSS, hCn⟩ := id hS
      exact W.lald hx hb (hR.aj hk) ((hK.2 1 _ rfl).1 _ (fun j => .long (gJ h a j))) (fun q => by cases q) (by show ¬ (_ < 0 ∨ (arrV _ _ _).slots.size ≤ _); rw [arrV_size]; exact hi) (arrV_read _ _ (Nat.not_le.mp fun q => hi (Or.inr q))) rfl rfl hd (kk _ _ _ hS)
    · cases ha
  · cases ha

theorem jk_baload (hC : Ctx b0 D cy p R s m args meth c y) (hS : Stt b0 D cy s y H locs ls L h) (hd : decode (bts y) pc = .ok (.baload, 1)) (ha : sxx y pc (.baload) L st h = aJ pc' L' st' h') (hrm : cells + (gX h' - gX h) ≤ R.cells ∧ slots + (gS h' - gS h) ≤ R.slots) (kk : ∀ (ls' : Array Slot) (H' : Heap) (locs' : List Loc), Stt b0 D cy s y H' locs' ls' L' h' → W p l e R s m args below meth c H' locs' (cells + (gX h' - gX h)) (slots + (gS h' - gS h)) Q (F0 m pc' ls' st')) : W p l e R s m args below meth c H locs cells slots Q (F0 m pc ls st) := by
  obtain ⟨hx, hb, hml, hown, hts, hb0, hK, hfr, hlo, hnm⟩ := hC
  simp only [sxx] at ha
  split at ha
  · rename_i j a st9
    split at ha
    · rename_i hk
      obtain ⟨hk, hi⟩ := hk
      simp only [aJ, Option.some.injEq, Sum.inr.injEq, Sum.inl.injEq, Prod.mk.injEq] at ha
      obtain ⟨rfl, rfl, rfl, rfl⟩ := ha
      simp only [Nat.sub_self, Nat.add_zero] at kk
      obtain ⟨hL, hR, hSS, hCn⟩ := id hS
      rcases hk with hk | hk
      · exact W.zald hx hb (hR.az hk) ((hK.2 2 _ rfl).1 _ (fun j => .int (gI h a j))) (fun q => by cases q) (by show ¬ (_ < 0 ∨ (arrV _ _ _).slots.size ≤ _); rw [arrV_size]; exact hi) (arrV_read _ _ (Nat.not_le.mp fun q => hi (Or.inr q))) rfl rfl hd (kk _ _ _ hS)
      · exact va_tb hx hb (hCn.2.2.1 _ hk) hSS hi rfl hd (kk _ _ _ hS)
    · cases ha
  · cases ha

theorem jk_aaload (hC : Ctx b0 D cy p R s m args meth c y) (hS : Stt b0 D cy s y H locs ls L h) (hd : decode (bts y) pc = .ok (.aaload, 1)) (ha : sxx y pc (.aaload) L st h = aJ pc' L' st' h') (hrm : cells + (gX h' - gX h) ≤ R.cells ∧ slots + (gS h' - gS h) ≤ R.slots) (kk : ∀ (ls' : Array Slot) (H' : Heap) (locs' : List Loc), Stt b0 D cy s y H' locs' ls' L' h' → W p l e R s m args below meth c H' locs' (cells + (gX h' - gX h)) (slots + (gS h' - gS h)) Q (F0 m pc' ls' st')) : W p l e R s m args below meth c H locs cells slots Q (F0 m pc ls st) := by
  obtain ⟨hx, hb, hml, hown, hts, hb0, hK, hfr, hlo, hnm⟩ := hC
  simp only [sxx] at ha
  split at ha
  · rename_i j a st9
    split at ha
    · rename_i hk
      obtain ⟨hk, hi⟩ := hk
      simp only [aJ, Option.some.injEq, Sum.inr.injEq, Sum.inl.injEq, Prod.mk.injEq] at ha
      obtain ⟨rfl, rfl, rfl, rfl⟩ := ha
      simp only [Nat.sub_self, Nat.add_zero] at kk
      obtain ⟨hL, hR, hSS, hCn⟩ := id hS
      rcases id hk with hk9 | hk9 | hk9
      · exact W.aald (ty := .object "BootSale$Shelf") hx hb (cell := arrV (cy 11) (gN h a) (fun j => va_rf (gR h a j))) (by have h9 := hR.aq hk; rw [hk9] at h9; exact h9) ((hK.2 3 _ rfl).1 _ (fun j => va_rf (gR h a j))) rfl (fun q => by cases q) (by show ¬ (_ < 0 ∨ (arrV _ _ _).slots.size ≤ _); rw [arrV_size]; exact hi) (arrV_read _ _ (Nat.not_le.mp fun q => hi (Or.inr q))) rfl rfl hd (kk _ _ _ hS)
      · exact W.aald (ty := .array .int) hx hb (cell := arrV (cy 12) (gN h a) (fun j => va_rf (gR h a j))) (by have h9 := hR.aq hk; rw [hk9] at h9; exact h9) ((hK.2 4 _ rfl).1 _ (fun j => va_rf (gR h a j))) rfl (fun q => by cases q) (by show ¬ (_ < 0 ∨ (arrV _ _ _).slots.size ≤ _); rw [arrV_size]; exact hi) (arrV_read _ _ (Nat.not_le.mp fun q => hi (Or.inr q))) rfl rfl hd (kk _ _ _ hS)
      · exact W.aald (ty := .array .long) hx hb (cell := arrV (cy 13) (gN h a) (fun j => va_rf (gR h a j))) (by have h9 := hR.aq hk; rw [hk9] at h9; exact h9) ((hK.2 5 _ rfl).1 _ (fun j => va_rf (gR h a j))) rfl (fun q => by cases q) (by show ¬ (_ < 0 ∨ (arrV _ _ _).slots.size ≤ _); rw [arrV_size]; exact hi) (arrV_read _ _ (Nat.not_le.mp fun q => hi (Or.inr q))) rfl rfl hd (kk _ _ _ hS)
    · cases ha
  · cases ha

theorem jk_iastore (hC : Ctx b0 D cy p R s m args meth c y) (hS : Stt b0 D cy s y H locs ls L h) (hd : decode (bts y) pc = .ok (.iastore, 1)) (ha : sxx y pc (.iastore) L st h = aJ pc' L' st' h') (hrm : cells + (gX h' - gX h) ≤ R.cells ∧ slots + (gS h' - gS h) ≤ R.slots) (kk : ∀ (ls' : Array Slot) (H' : Heap) (locs' : List Loc), Stt b0 D cy s y H' locs' ls' L' h' → W p l e R s m args below meth c H' locs' (cells + (gX h' - gX h)) (slots + (gS h' - gS h)) Q (F0 m pc' ls' st')) : W p l e R s m args below meth c H locs cells slots Q (F0 m pc ls st) := by
  obtain ⟨hx, hb, hml, hown, hts, hb0, hK, hfr, hlo, hnm⟩ := hC
  simp only [sxx] at ha
  split at ha
  · rename_i x j a st9
    split at ha
    · rename_i hk
      obtain ⟨hk, hi⟩ := hk
      simp only [aJ, Option.some.injEq, Sum.inr.injEq, Sum.inl.injEq, Prod.mk.injEq] at ha
      obtain ⟨rfl, rfl, rfl, rfl⟩ := ha
      simp only [gX_pI, gS_pI, gX_pJ, gS_pJ, gX_pR, gS_pR, gX_cpI, gS_cpI, gX_cpJ, gS_cpJ, Nat.sub_self, Nat.add_zero] at kk
      obtain ⟨hL, hR, hSS, hCn⟩ := id hS
      refine W.iast hx hb (hR.ai hk) ((hK.2 0 _ rfl).1 _ (fun j => .int (gI h a j))) (fun q => by cases q) (by show ¬ (_ < 0 ∨ (arrV _ _ _).slots.size ≤ _); rw [arrV_size]; exact hi) rfl rfl hd fun H1 e1 z1 oq => ?_
      refine kk _ H1 _ ⟨hL, hR.upd (a := a) z1 oq ?_ ?_ rfl (fun _ => rfl), hSS.put z1 oq (hR.a0 (by omega) (by omega)).2.1, hCn.cst (cst_pI hR (by omega) (by omega))⟩
      · have e9 : eOf cy (pI h a j.toNatClampNeg x) a = .inl (cy 8, gN h a, .inl (gI (pI h a j.toNatClampNeg x) a)) := by
          have hk' : gK (pI h a j.toNatClampNeg x) a = 8 := hk
          unfold eOf eCl
          rw [hk']
          rfl
        rw [e9]
        show H1[a]? = some (vp_cell _ _)
        rw [e1, vp_cell_i, arrV_store]
        congr 2
        funext q
        show _ = Value.int (gI (pI h a j.toNatClampNeg x) a q)
        by_cases hq : q = j.toNatClampNeg
        · subst hq
          simp [updV, gI, pI]
        · simp [updV, gI, pI, hq]
      · intro b hb9
        exact eOf_congr rfl rfl (by first | rfl | (funext q; show (if b = a ∧ q = _ then _ else _) = _; rw [if_neg (fun z => hb9 z.1)]; rfl)) (by first | rfl | (funext q; show (if b = a ∧ q = _ then _ else _) = _; rw [if_neg (fun z => hb9 z.1)]; rfl)) (by first | rfl | (funext q; show (if b = a ∧ q = _ then _ else _) = _; rw [if_neg (fun z => hb9 z.1)]; rfl))
    · cases ha
  · cases ha

theorem jk_lastore (hC : Ctx b0 D cy p R s m args meth c y) (hS : Stt b0 D cy s y H locs ls L h) (hd : decode (bts y) pc = .ok (.lastore, 1)) (ha : sxx y pc (.lastore) L st h = aJ pc' L' st' h') (hrm : cells + (gX h' - gX h) ≤ R.cells ∧ slots + (gS h' - gS h) ≤ R.slots) (kk : ∀ (ls' : Array Slot) (H' : Heap) (locs' : List Loc), Stt b0 D cy s y H' locs' ls' L' h' → W p l e R s m args below meth c H' locs' (cells + (gX h' - gX h)) (slots + (gS h' - gS h)) Q (F0 m pc' ls' st')) : W p l e R s m args below meth c H locs cells slots Q (F0 m pc ls st) := by
  obtain ⟨hx, hb, hml, hown, hts, hb0, hK, hfr, hlo, hnm⟩ := hC
  simp only [sxx] at ha
  split at ha
  · rename_i x j a st9
    split at ha
    · rename_i hk
      obtain ⟨hk, hi⟩ := hk
      simp only [aJ, Option.some.injEq, Sum.inr.injEq, Sum.inl.injEq, Prod.mk.injEq] at ha
      obtain ⟨rfl, rfl, rfl, rfl⟩ := ha
      simp only [gX_pI, gS_pI, gX_pJ, gS_pJ, gX_pR, gS_pR, gX_cpI, gS_cpI, gX_cpJ, gS_cpJ, Nat.sub_self, Nat.add_zero] at kk
      obtain ⟨hL, hR, hSS, hCn⟩ := id hS
      refine W.last hx hb (hR.aj hk) ((hK.2 1 _ rfl).1 _ (fun j => .long (gJ h a j))) (fun q => by cases q) (by show ¬ (_ < 0 ∨ (arrV _ _ _).slots.size ≤ _); rw [arrV_size]; exact hi) rfl rfl hd fun H1 e1 z1 oq => ?_
      refine kk _ H1 _ ⟨hL, hR.upd (a := a) z1 oq ?_ ?_ rfl (fun _ => rfl), hSS.put z1 oq (hR.a0 (by omega) (by omega)).2.1, hCn.cst cst_pJ⟩
      · have e9 : eOf cy (pJ h a j.toNatClampNeg x) a = .inl (cy 9, gN h a, .inr (.inl (gJ (pJ h a j.toNatClampNeg x) a))) := by
          have hk' : gK (pJ h a j.toNatClampNeg x) a = 9 := hk
          unfold eOf eCl
          rw [hk']
          rfl
        rw [e9]
        show H1[a]? = some (vp_cell _ _)
        rw [e1, vp_cell_l, arrV_store]
        congr 2
        funext q
        show _ = Value.long (gJ (pJ h a j.toNatClampNeg x) a q)
        by_cases hq : q = j.toNatClampNeg
        · subst hq
          simp [updV, gJ, pJ]
        · simp [updV, gJ, pJ, hq]
      · intro b hb9
        exact eOf_congr rfl rfl (by first | rfl | (funext q; show (if b = a ∧ q = _ then _ else _) = _; rw [if_neg (fun z => hb9 z.1)]; rfl)) (by first | rfl | (funext q; show (if b = a ∧ q = _ then _ else _) = _; rw [if_neg (fun z => hb9 z.1)]; rfl)) (by first | rfl | (funext q; show (if b = a ∧ q = _ then _ else _) = _; rw [if_neg (fun z => hb9 z.1)]; rfl))
    · cases ha
  · cases ha

theorem jk_bastore (hC : Ctx b0 D cy p R s m args meth c y) (hS : Stt b0 D cy s y H locs ls L h) (hd : decode (bts y) pc = .ok (.bastore, 1)) (ha : sxx y pc (.bastore) L st h = aJ pc' L' st' h') (hrm : cells + (gX h' - gX h) ≤ R.cells ∧ slots + (gS h' - gS h) ≤ R.slots) (kk : ∀ (ls' : Array Slot) (H' : Heap) (locs' : List Loc), Stt b0 D cy s y H' locs' ls' L' h' → W p l e R s m args below meth c H' locs' (cells + (gX h' - gX h)) (slots + (gS h' - gS h)) Q (F0 m pc' ls' st')) : W p l e R s m args below meth c H locs cells slots Q (F0 m pc ls st) := by
  obtain ⟨hx, hb, hml, hown, hts, hb0, hK, hfr, hlo, hnm⟩ := hC
  simp only [sxx] at ha
  split at ha
  · rename_i x j a st9
    split at ha
    · rename_i hk
      obtain ⟨hk, hi⟩ := hk
      simp only [aJ, Option.some.injEq, Sum.inr.injEq, Sum.inl.injEq, Prod.mk.injEq] at ha
      obtain ⟨rfl, rfl, rfl, rfl⟩ := ha
      simp only [gX_pI, gS_pI, gX_pJ, gS_pJ, gX_pR, gS_pR, gX_cpI, gS_cpI, gX_cpJ, gS_cpJ, Nat.sub_self, Nat.add_zero] at kk
      obtain ⟨hL, hR, hSS, hCn⟩ := id hS
      refine W.zast hx hb (hR.az hk) ((hK.2 2 _ rfl).1 _ (fun j => .int (gI h a j))) (fun q => by cases q) (by show ¬ (_ < 0 ∨ (arrV _ _ _).slots.size ≤ _); rw [arrV_size]; exact hi.1) rfl rfl hd fun H1 e1 z1 oq => ?_
      refine kk _ H1 _ ⟨hL, hR.upd (a := a) z1 oq ?_ ?_ rfl (fun _ => rfl), hSS.put z1 oq (hR.a0 (by omega) (by omega)).2.1, hCn.cst (cst_pI hR (by omega) (by omega))⟩
      · have e9 : eOf cy (pI h a j.toNatClampNeg x) a = .inl (cy 10, gN h a, .inl (gI (pI h a j.toNatClampNeg x) a)) := by
          have hk' : gK (pI h a j.toNatClampNeg x) a = 10 := hk
          unfold eOf eCl
          rw [hk']
          rfl
        rw [e9]
        show H1[a]? = some (vp_cell _ _)
        rw [e1, vp_cell_i, arrV_store]
        congr 2
        funext q
        show _ = Value.int (gI (pI h a j.toNatClampNeg x) a q)
        by_cases hq : q = j.toNatClampNeg
        · subst hq
          rcases hi.2 with rfl | rfl <;> simp [updV, gI, pI, narrow]
        · simp [updV, gI, pI, hq]
      · intro b hb9
        exact eOf_congr rfl rfl (by first | rfl | (funext q; show (if b = a ∧ q = _ then _ else _) = _; rw [if_neg (fun z => hb9 z.1)]; rfl)) (by first | rfl | (funext q; show (if b = a ∧ q = _ then _ else _) = _; rw [if_neg (fun z => hb9 z.1)]; rfl)) (by first | rfl | (funext q; show (if b = a ∧ q = _ then _ else _) = _; rw [if_neg (fun z => hb9 z.1)]; rfl))
    · cases ha
  · cases ha

