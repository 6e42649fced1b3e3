variable {l : Launch} {b0 : Nat} {D : va_G} {cy : Nat → ClassId} {p : Program} {e : Env} {R : Room} {s : State} {m : MethodId} {args : Array Value} {below : List Frame} {meth : Method} {c : Code} {H : Heap} {locs : List Loc} {cells slots : Nat} {Q : State → Prop} {y pc pc' : Nat} {L L' st st' : List Value} {h h' : Hp} {ls : Array Slot}

theorem gX_mk1 (h : Hp) (K N n : Nat) : gX (mk1 h K N n) = gX h + 1 := rfl
theorem gS_mk1 (h : Hp) (K N n : Nat) : gS (mk1 h K N n) = gS h + n := rfl
theorem gX_mk2 (h : Hp) (K K2 n k : Nat) : gX (mk2 h K K2 n k) = gX h + 1 + n := rfl
theorem gS_mk2 (h : Hp) (K K2 n k : Nat) : gS (mk2 h K K2 n k) = gS h + n + n * k := rfl
theorem mk1_K (h : Hp) (K N n : Nat) {a : Nat} (ha : a ≠ gX h) : gK (mk1 h K N n) a = gK h a := if_neg ha
theorem mk1_N (h : Hp) (K N n : Nat) {a : Nat} (ha : a ≠ gX h) : gN (mk1 h K N n) a = gN h a := if_neg ha
theorem mk1_I (h : Hp) (K N n : Nat) {a : Nat} (ha : a ≠ gX h) : gI (mk1 h K N n) a = gI h a := by funext j; exact if_neg ha
theorem mk1_J (h : Hp) (K N n : Nat) {a : Nat} (ha : a ≠ gX h) : gJ (mk1 h K N n) a = gJ h a := by funext j; exact if_neg ha
theorem mk1_R (h : Hp) (K N n : Nat) {a : Nat} (ha : a ≠ gX h) : gR (mk1 h K N n) a = gR h a := by funext j; exact if_neg ha
theorem mk1_K0 (h : Hp) (K N n : Nat) : gK (mk1 h K N n) (gX h) = K := if_pos rfl
theorem mk1_N0 (h : Hp) (K N n : Nat) : gN (mk1 h K N n) (gX h) = N := if_pos rfl
theorem mk1_I0 (h : Hp) (K N n : Nat) : gI (mk1 h K N n) (gX h) = fun _ => 0 := by funext j; exact if_pos rfl
theorem mk1_J0 (h : Hp) (K N n : Nat) : gJ (mk1 h K N n) (gX h) = fun _ => 0 := by funext j; exact if_pos rfl
theorem mk1_R0 (h : Hp) (K N n : Nat) : gR (mk1 h K N n) (gX h) = fun _ => none := by funext j; exact if_pos rfl
theorem cst_mk1 (hR : Rl b0 D cy H h) {K N n : Nat} (hK : K ≤ 13) : Cst h (mk1 h K N n) := by
  obtain ⟨hP, hz, hle, hb1, hk1, hk2, hk3⟩ := hR
  have h0 : (0 : Nat) ≠ gX h := by omega
  refine ⟨fun j _ => by rw [mk1_R h K N n h0], fun j _ => by rw [mk1_I h K N n h0], fun q hq => ?_, fun q hq => ?_⟩
  · by_cases e : q = gX h
    · subst e
      rw [mk1_K0] at hq
      omega
    · rwa [mk1_K h K N n e] at hq
  · have e : q ≠ gX h := fun z => by
      have := hk3 q (by omega)
      omega
    exact ⟨mk1_K h K N n e, mk1_N h K N n e, fun j => by rw [mk1_I h K N n e], fun j => by rw [mk1_R h K N n e]⟩
theorem Rl.push (hR : Rl b0 D cy H h) {H' : Heap} {K N n : Nat} (hK1 : 1 ≤ K) (hK2 : K ≤ 13) (z : H'.size = H.size + 1) (oq : ∀ q : Nat, q < H.size → H'[q]? = H[q]?) (he : va_at D vwCl (H.size, eCl cy K N (fun _ => 0) (fun _ => 0) (fun _ => none)) H') : Rl b0 D cy H' (mk1 h K N n) := by
  obtain ⟨hP, hz, hle, hb1, hk1, hk2, hk3⟩ := hR
  rw [hz] at he
  refine ⟨fun k q hq => ?_, by rw [z, hz, gX_mk1], by rw [gX_mk1]; omega, hb1, fun b h1 h2 => ?_, fun b h1 h2 => ?_, fun b h1 => ?_⟩
  · obtain ⟨hkn, rfl⟩ := wsO_inv hq
    rw [gX_mk1] at hkn
    by_cases e : b0 + k = gX h
    · have e9 : eOf cy (mk1 h K N n) (b0 + k) = eCl cy K N (fun _ => 0) (fun _ => 0) (fun _ => none) := by
        rw [e]
        unfold eOf
        rw [mk1_K0, mk1_N0, mk1_I0, mk1_J0, mk1_R0]
      rw [e9, e]
      exact he
    · rw [eOf_congr (mk1_K h K N n e) (mk1_N h K N n e) (mk1_I h K N n e) (mk1_J h K N n e) (mk1_R h K N n e)]
      exact (hP k _ (wsO_get (by omega))).kept (oq _ (by rw [hz]; omega))
  · by_cases e : b = gX h
    · subst e
      rw [gX_mk1]
      omega
    · rw [mk1_K h K N n e] at h1 h2
      have := hk1 b h1 h2
      rw [gX_mk1]
      omega
  · rw [gX_mk1] at h2
    by_cases e : b = gX h
    · subst e
      rw [mk1_K0]
      exact ⟨hK1, hK2⟩
    · rw [mk1_K h K N n e]
      exact hk2 b h1 (by omega)
  · rw [gX_mk1] at h1
    rw [mk1_K h K N n (by omega)]
    exact hk3 b (by omega)
theorem va_S.grow {A : Nat → Prop} {H0 H H1 : Heap} (hS : va_S A H0 H locs) (z : H.size ≤ H1.size) (oq : ∀ q : Nat, q < H.size → H1[q]? = H[q]?) : va_S A H0 H1 locs := ⟨Nat.le_trans hS.1 z, fun x h1 h2 => (oq x (Nat.lt_of_lt_of_le h1 hS.1)).trans (hS.2.1 x h1 h2), hS.2.2⟩
theorem cs_link {o i : Nat} {q : Nat × Nat} (hq : tfind csT o i = some q) : Cond.classLink (onm o) i (if q.1 < 7 then (cO q.1).1 else if q.1 = 12 then "[[I" else "[[J") ∈ gtb := by
  have h1 := tf_mem hq
  have h2 : ∀ q ∈ csT, Cond.classLink (onm q.1.1) q.1.2 (if q.2.1 < 7 then (cO q.2.1).1 else if q.2.1 = 12 then "[[I" else "[[J") ∈ lw_tbl ∧ goodWord (Cond.classLink (onm q.1.1) q.1.2 (if q.2.1 < 7 then (cO q.2.1).1 else if q.2.1 = 12 then "[[I" else "[[J")) = true := by decide +kernel
  exact List.mem_filter.mpr (h2 _ h1)
theorem in_link : ∀ ci, ci < 7 → Cond.instantiable (cO ci).1 (cO ci).2.2 ∈ gtb ∧ Cond.initialized (cO ci).1 ∈ gtb := by
  have h2 : ∀ ci, ci < 7 → (Cond.instantiable (cO ci).1 (cO ci).2.2 ∈ lw_tbl ∧ goodWord (Cond.instantiable (cO ci).1 (cO ci).2.2) = true) ∧ (Cond.initialized (cO ci).1 ∈ lw_tbl ∧ goodWord (Cond.initialized (cO ci).1) = true) := by decide +kernel
  exact fun ci h => ⟨List.mem_filter.mpr (h2 ci h).1, List.mem_filter.mpr (h2 ci h).2⟩
theorem ac_link : Cond.arrayClass .int ∈ gtb ∧ Cond.arrayClass .long ∈ gtb ∧ Cond.arrayClass .boolean ∈ gtb := ⟨List.mem_filter.mpr (by decide +kernel), List.mem_filter.mpr (by decide +kernel), List.mem_filter.mpr (by decide +kernel)⟩
theorem fls0 (ci : Nat) (hci : ci < 7) : ∀ j, j < (cO ci).2.2 → defaultValue (tyO ci j) = vp_V (fls ci (fun _ => 0) (fun _ => none)) j := by
  intro j hj
  have hj : j < nfo ci := by rw [← cO_n ci hci]; exact hj
  obtain ⟨f1, f2, f3, f4⟩ := fkO ci hci j hj
  unfold vp_V
  rw [List.getD_eq_getElem?_getD, fls_get hj]
  by_cases hr : isr ci j = true
  · rw [if_pos hr]
    have := (f3 hr).1
    cases ht : tyO ci j <;> rw [ht] at this <;> first | rfl | (simp [fits] at this)
  · rw [if_neg hr]
    rcases f4 (by simpa using hr) with z | z
    · rw [z]; rfl
    · rw [z.2]; rfl

theorem jk_new {i : Nat} (hC : Ctx b0 D cy p R s m args meth c y) (hS : Stt b0 D cy s y H locs ls L h) (hd : decode (bts y) pc = .ok (.new i, 3)) (ha : sxx y pc (.new i) L st h = aJ pc' L' st' h') (hrm : cells + (gX h' - gX h) ≤ R.cells ∧ slots + (gS h' - gS h) ≤ R.slots) (kk : ∀ (ls' : Array Slot) (H' : Heap) (locs' : List Loc), Stt b0 D cy s y H' locs' ls' L' h' → W p l e R s m args below meth c H' locs' (cells + (gX h' - gX h)) (slots + (gS h' - gS h)) Q (F0 m pc' ls' st')) : W p l e R s m args below meth c H locs cells slots Q (F0 m pc ls st) := by
  obtain ⟨hx, hb, hml, hown, hts, hb0, hK, hfr, hlo, hnm⟩ := hC
  simp only [sxx] at ha
  split at ha
  · rename_i q hq
    split at ha
    · rename_i hci
      simp only [aJ, Option.some.injEq, Sum.inr.injEq, Sum.inl.injEq, Prod.mk.injEq] at ha
      obtain ⟨rfl, rfl, rfl, rfl⟩ := ha
      simp only [gX_mk1, gS_mk1, gX_mk2, gS_mk2] at hrm kk
      obtain ⟨hL, hR, hSS, hCn⟩ := id hS
      have hz := hR.2.1
      have hKn := hK.1 q.1 _ (cO_at q.1 hci)
      have hl := hts _ (cs_link hq)
      rw [if_pos hci] at hl
      have hn9 := cO_n q.1 hci
      refine W.newcK hx hb hown hl (hts _ (in_link q.1 hci).1) (hts _ (in_link q.1 hci).2) rfl hd (by omega) (by rw [hn9]; omega) hKn.2.1 rfl fun H1 kC hkC e1 z1 o1 => ?_
      rw [hn9]
      have kk9 := kk _ H1 locs ⟨hL, hR.push (K := q.1 + 1) (N := 0) (by omega) (by omega) z1 o1 ?_, hSS.grow (by omega) o1, hCn.cst (cst_mk1 hR (by omega))⟩
      · rw [show gX h + 1 - gX h = 1 by omega, show gS h + nfo q.1 - gS h = nfo q.1 by omega, ← hz] at kk9
        exact kk9
      · show va_at D vwCl (H.size, eCl cy (q.1 + 1) 0 _ _ _) H1
        unfold eCl
        rw [if_pos (by omega)]
        exact ⟨_, cO_at q.1 hci, (u_born (tyO q.1) hts (inO q.1 hci) hKn hkC e1 (tyO_ok q.1 hci)).to (fls0 q.1 hci)⟩
    · cases ha
  · cases ha

theorem jk_newarray {t : ArrayType} (hC : Ctx b0 D cy p R s m args meth c y) (hS : Stt b0 D cy s y H locs ls L h) (hd : decode (bts y) pc = .ok (.newarray t, 2)) (ha : sxx y pc (.newarray t) L st h = aJ pc' L' st' h') (hrm : cells + (gX h' - gX h) ≤ R.cells ∧ slots + (gS h' - gS h) ≤ R.slots) (kk : ∀ (ls' : Array Slot) (H' : Heap) (locs' : List Loc), Stt b0 D cy s y H' locs' ls' L' h' → W p l e R s m args below meth c H' locs' (cells + (gX h' - gX h)) (slots + (gS h' - gS h)) Q (F0 m pc' ls' st')) : W p l e R s m args below meth c H locs cells slots Q (F0 m pc ls st) := by
  obtain ⟨hx, hb, hml, hown, hts, hb0, hK, hfr, hlo, hnm⟩ := hC
  simp only [sxx] at ha
  split at ha
  · rename_i n st9
    split at ha
    · rename_i hc
      simp only [aJ, Option.some.injEq, Sum.inr.injEq, Sum.inl.injEq, Prod.mk.injEq] at ha
      obtain ⟨rfl, rfl, rfl, rfl⟩ := ha
      simp only [gX_mk1, gS_mk1, gX_mk2, gS_mk2] at hrm kk
      obtain ⟨h1, h2, h3⟩ := hc
      obtain ⟨hL, hR, hSS, hCn⟩ := id hS
      have hz := hR.2.1
      have ht : t = .int ∨ t = .long ∨ t = .boolean := by cases t <;> simp [kdt] at h3 ⊢
      rcases ht with rfl | rfl | rfl
      · obtain ⟨hAr, hNm⟩ := hK.2 0 _ rfl
        refine W.newa (atype := .int) hx hb (hts _ ac_link.1) rfl hd rfl h1 (by show _ * 4 ≤ _; omega) (by omega) (by omega) fun cA kA comp f1 f2 f3 => ?_
        have hcA : cA = cy 8 := Option.some.inj (f1.symm.trans hNm)
        subst hcA
        generalize hH1 : H.push ({ cls := cy 8, slots := Array.replicate n.toNatClampNeg (defaultValue (newarray.typeOf .int)), vm := .none } : Cell) = H1
        have z1 : H1.size = H.size + 1 := by rw [← hH1, Array.size_push]
        have e1 : H1[H.size]? = some (arrV (cy 8) n.toNatClampNeg (fun _ => .int 0)) := by rw [← hH1, Array.getElem?_push_size, ← arrV_new]; rfl
        have o1 : ∀ q : Nat, q < H.size → H1[q]? = H[q]? := fun q hq => by rw [← hH1, Array.getElem?_push, if_neg (Nat.ne_of_lt hq)]
        have kk9 := kk _ H1 locs ⟨hL, hR.push (K := 8) (N := n.toNatClampNeg) (by omega) (by omega) z1 o1 (by show H1[H.size]? = some (vp_cell _ _); exact e1), hSS.grow (by omega) o1, hCn.cst (cst_mk1 hR (by decide))⟩
        rw [show gX h + 1 - gX h = 1 by omega, show gS h + n.toNatClampNeg - gS h = n.toNatClampNeg by omega, ← hz] at kk9
        exact kk9
      · obtain ⟨hAr, hNm⟩ := hK.2 1 _ rfl
        refine W.newa (atype := .long) hx hb (hts _ ac_link.2.1) rfl hd rfl h1 (by show _ * 8 ≤ _; omega) (by omega) (by omega) fun cA kA comp f1 f2 f3 => ?_
        have hcA : cA = cy 9 := Option.some.inj (f1.symm.trans hNm)
        subst hcA
        generalize hH1 : H.push ({ cls := cy 9, slots := Array.replicate n.toNatClampNeg (defaultValue (newarray.typeOf .long)), vm := .none } : Cell) = H1
        have z1 : H1.size = H.size + 1 := by rw [← hH1, Array.size_push]
        have e1 : H1[H.size]? = some (arrV (cy 9) n.toNatClampNeg (fun _ => .long 0)) := by rw [← hH1, Array.getElem?_push_size, ← arrV_new]; rfl
        have o1 : ∀ q : Nat, q < H.size → H1[q]? = H[q]? := fun q hq => by rw [← hH1, Array.getElem?_push, if_neg (Nat.ne_of_lt hq)]
        have kk9 := kk _ H1 locs ⟨hL, hR.push (K := 9) (N := n.toNatClampNeg) (by omega) (by omega) z1 o1 (by show H1[H.size]? = some (vp_cell _ _); exact e1), hSS.grow (by omega) o1, hCn.cst (cst_mk1 hR (by decide))⟩
        rw [show gX h + 1 - gX h = 1 by omega, show gS h + n.toNatClampNeg - gS h = n.toNatClampNeg by omega, ← hz] at kk9
        exact kk9
      · obtain ⟨hAr, hNm⟩ := hK.2 2 _ rfl
        refine W.newa (atype := .boolean) hx hb (hts _ ac_link.2.2) rfl hd rfl h1 (by show _ * 1 ≤ _; omega) (by omega) (by omega) fun cA kA comp f1 f2 f3 => ?_
        have hcA : cA = cy 10 := Option.some.inj (f1.symm.trans hNm)
        subst hcA
        generalize hH1 : H.push ({ cls := cy 10, slots := Array.replicate n.toNatClampNeg (defaultValue (newarray.typeOf .boolean)), vm := .none } : Cell) = H1
        have z1 : H1.size = H.size + 1 := by rw [← hH1, Array.size_push]
        have e1 : H1[H.size]? = some (arrV (cy 10) n.toNatClampNeg (fun _ => .int 0)) := by rw [← hH1, Array.getElem?_push_size, ← arrV_new]; rfl
        have o1 : ∀ q : Nat, q < H.size → H1[q]? = H[q]? := fun q hq => by rw [← hH1, Array.getElem?_push, if_neg (Nat.ne_of_lt hq)]
        have kk9 := kk _ H1 locs ⟨hL, hR.push (K := 10) (N := n.toNatClampNeg) (by omega) (by omega) z1 o1 (by show H1[H.size]? = some (vp_cell _ _); exact e1), hSS.grow (by omega) o1, hCn.cst (cst_mk1 hR (by decide))⟩
        rw [show gX h + 1 - gX h = 1 by omega, show gS h + n.toNatClampNeg - gS h = n.toNatClampNeg by omega, ← hz] at kk9
        exact kk9
    · cases ha
  · cases ha

theorem jk_anewarray {i : Nat} (hC : Ctx b0 D cy p R s m args meth c y) (hS : Stt b0 D cy s y H locs ls L h) (hd : decode (bts y) pc = .ok (.anewarray i, 3)) (ha : sxx y pc (.anewarray i) L st h = aJ pc' L' st' h') (hrm : cells + (gX h' - gX h) ≤ R.cells ∧ slots + (gS h' - gS h) ≤ R.slots) (kk : ∀ (ls' : Array Slot) (H' : Heap) (locs' : List Loc), Stt b0 D cy s y H' locs' ls' L' h' → W p l e R s m args below meth c H' locs' (cells + (gX h' - gX h)) (slots + (gS h' - gS h)) Q (F0 m pc' ls' st')) : W p l e R s m args below meth c H locs cells slots Q (F0 m pc ls st) := by
  obtain ⟨hx, hb, hml, hown, hts, hb0, hK, hfr, hlo, hnm⟩ := hC
  simp only [sxx] at ha
  split at ha
  · rename_i q hq
    split at ha
    · rename_i n st9
      split at ha
      · rename_i hc
        simp only [aJ, Option.some.injEq, Sum.inr.injEq, Sum.inl.injEq, Prod.mk.injEq] at ha
        obtain ⟨rfl, rfl, rfl, rfl⟩ := ha
        simp only [gX_mk1, gS_mk1, gX_mk2, gS_mk2] at hrm kk
        obtain ⟨h0, h1, h2⟩ := hc
        obtain ⟨hL, hR, hSS, hCn⟩ := id hS
        have hz := hR.2.1
        obtain ⟨hAr, hRA⟩ := hK.2 3 _ rfl
        have hl := hts _ (cs_link hq)
        rw [h0] at hl
        refine W.anew (C := "BootSale$Shelf") hx hb hown hl (va_AO.use hCn.2.2.2.2.2.2.1) rfl hd rfl h1 (by omega) (by omega) (by omega) fun cA kA comp f1 f2 f3 f4 => ?_
        obtain ⟨kA9, comp9, g1, g2, g3, g4⟩ := hRA
        have hcA : cA = cy 11 := Option.some.inj (f1.symm.trans g4)
        subst hcA
        generalize hH1 : H.push ({ cls := cy 11, slots := Array.replicate n.toNatClampNeg .null, vm := .none } : Cell) = H1
        have z1 : H1.size = H.size + 1 := by rw [← hH1, Array.size_push]
        have e1 : H1[H.size]? = some (arrV (cy 11) n.toNatClampNeg (fun _ => .null)) := by rw [← hH1, Array.getElem?_push_size, ← arrV_new]
        have o1 : ∀ q : Nat, q < H.size → H1[q]? = H[q]? := fun q hq => by rw [← hH1, Array.getElem?_push, if_neg (Nat.ne_of_lt hq)]
        have kk9 := kk _ H1 locs ⟨hL, hR.push (K := 11) (N := n.toNatClampNeg) (by omega) (by omega) z1 o1 (by show H1[H.size]? = some (vp_cell _ _); exact e1), hSS.grow (by omega) o1, hCn.cst (cst_mk1 hR (by omega))⟩
        rw [show gX h + 1 - gX h = 1 by omega, show gS h + n.toNatClampNeg - gS h = n.toNatClampNeg by omega, ← hz] at kk9
        exact kk9
      · cases ha
    · cases ha
  · cases ha

theorem jk_aastore (hC : Ctx b0 D cy p R s m args meth c y) (hS : Stt b0 D cy s y H locs ls L h) (hd : decode (bts y) pc = .ok (.aastore, 1)) (ha : sxx y pc (.aastore) L st h = aJ pc' L' st' h') (hrm : cells + (gX h' - gX h) ≤ R.cells ∧ slots + (gS h' - gS h) ≤ R.slots) (kk : ∀ (ls' : Array Slot) (H' : Heap) (locs' : List Loc), Stt b0 D cy s y H' locs' ls' L' h' → W p l e R s m args below meth c H' locs' (cells + (gX h' - gX h)) (slots + (gS h' - gS h)) Q (F0 m pc' ls' st')) : W p l e R s m args below meth c H locs cells slots Q (F0 m pc ls st) := by
  obtain ⟨hx, hb, hml, hown, hts, hb0, hK, hfr, hlo, hnm⟩ := hC
  simp only [sxx] at ha
  split at ha
  · rename_i b j a st9
    split at ha
    · rename_i hk
      obtain ⟨hk, hi⟩ := hk
      simp only [aJ, Option.some.injEq, Sum.inr.injEq, Sum.inl.injEq, Prod.mk.injEq] at ha
      obtain ⟨rfl, rfl, rfl, rfl⟩ := ha
      simp only [gX_pR, gS_pR, Nat.sub_self, Nat.add_zero] at kk
      obtain ⟨hL, hR, hSS, hCn⟩ := id hS
      have hlt : j.toNatClampNeg < gN h a := Nat.not_le.mp fun q => hi (Or.inr q)
      have hj0 : ¬ j < 0 := fun q => hi (Or.inl q)
      have hk3 : gK h a = 11 ∨ gK h a = 12 ∨ gK h a = 13 := by omega
      have fin : ∀ (H1 : Heap), H1[a]? = some ((arrV (cy (gK h a)) (gN h a) (fun j => va_rf (gR h a j))).setSlot j.toNatClampNeg (.ref b)) → H1.size = H.size → (∀ q : Nat, q ≠ a → H1[q]? = H[q]?) → W p l e R s m args below meth c H1 (locs ++ [⟨a, j.toNatClampNeg⟩]) cells slots Q (F0 m (pc + 1) ls st9) := by
        intro H1 e1 z1 oq
        refine kk _ H1 _ ⟨hL, hR.upd (a := a) z1 oq ?_ ?_ rfl (fun _ => rfl), hSS.put z1 oq (hR.a0 (by omega) (by omega)).2.1, hCn.cst (cst_pR hR (by omega) (by omega))⟩
        · have e9 : eOf cy (pR h a j.toNatClampNeg (some b)) a = .inl (cy (gK h a), gN h a, .inr (.inr (.inr (.inr (gR (pR h a j.toNatClampNeg (some b)) a))))) := by
            have hk' : gK (pR h a j.toNatClampNeg (some b)) a = gK h a := rfl
            unfold eOf eCl
            rw [hk', if_neg (by omega), if_neg (by omega), if_neg (by omega)]
            rfl
          rw [e9]
          show H1[a]? = some (vp_cell _ _)
          rw [e1, vp_cell_q, arrV_store]
          congr 2
          funext q
          show _ = va_rf (gR (pR h a j.toNatClampNeg (some b)) a q)
          by_cases hq : q = j.toNatClampNeg
          · subst hq
            simp [updV, gR, pR, va_rf]
          · simp [updV, gR, pR, hq]
        · intro b9 hb9
          exact eOf_congr rfl rfl rfl rfl (by funext q; show (if b9 = a ∧ q = _ then _ else _) = _; rw [if_neg (fun z => hb9 z.1)]; rfl)
      have hin : ¬ j < 0 ∧ j.toNatClampNeg < (arrV (cy (gK h a)) (gN h a) (fun j => va_rf (gR h a j))).slots.size := ⟨hj0, by rw [arrV_size]; exact hlt⟩
      rcases hk with ⟨ka, kb⟩ | ⟨ka, kb⟩
      · obtain ⟨r9, hr9, cellV, g1, g2, g3, -⟩ := (hR.obj (ci := 1) (by omega) kb) 0 _ rfl
        have hcl := cO_at 1 (by omega)
        have hr : r9 = cO 1 := Option.some.inj (hr9.symm.trans hcl)
        subst hr
        have hcls := (hK.1 1 _ hcl).2
        obtain ⟨kA, comp, k1, k2, k3, -⟩ := (hK.2 3 _ rfl).2
        have hcomp : comp = D.1 1 := Option.some.inj (k3.symm.trans hcls.1)
        subst hcomp
        obtain ⟨kC, hkC, -⟩ := hcls.2
        exact W.aast hx hb (hR.aq hk3) (fun q h => by cases h) (fun h => by cases h) (by rw [ka]; exact k1) k2 rfl hkC hin g1 (fun q h => by rw [g3] at h; cases h) (by rw [g2]; exact hkC) (by rw [g2]; exact va_asg _ _) rfl rfl hd fin
      · obtain ⟨comp, c9, k9, w1, w3, w4, w5⟩ := Cond.arrayOver_specA hCn.2.2.2.2.2.2.2.1
        have hc12 : s.vm.findClass ("[" ++ (FieldType.array .int).toString) = some (cy 12) := (hK.2 4 _ rfl).2
        have hc8 : s.vm.findClass ("[" ++ (FieldType.int).toString) = some (cy 8) := (hK.2 0 _ rfl).2
        have e12 : c9 = cy 12 := Option.some.inj (w5.symm.trans hc12)
        have e8 : comp = cy 8 := Option.some.inj (w1.symm.trans hc8)
        subst e12
        subst e8
        obtain ⟨-, k8, hk8, -⟩ := (hK.2 0 _ rfl).1 0 (fun _ => .null)
        exact W.aast hx hb (hR.aq hk3) (fun q h => by cases h) (fun h => by cases h) (by rw [ka]; exact w3) w4 rfl hk8 hin (hR.ai kb) (fun q h => by cases h) hk8 (va_asg _ _) rfl rfl hd fin
    · cases ha
  · cases ha

