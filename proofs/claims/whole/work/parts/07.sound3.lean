variable {l : Launch} {b0 : Nat} {D : va_G} {cy : Nat → ClassId} {p : Program} {e : Env} {R : Room} {s : State} {m : MethodId} {args : Array Value} {below : List Frame} {meth : Method} {c : Code} {H : Heap} {locs : List Loc} {cells slots : Nat} {Q : State → Prop} {y pc pc' : Nat} {L L' st st' : List Value} {h h' : Hp} {ls : Array Slot}

theorem fits_ref (ty : FieldType) (b : Nat) : fits ty (.ref b) = fits ty (.ref 0) := by cases ty <;> rfl
theorem narrow_rf (ty : FieldType) (w : Option Nat) : narrow ty (va_rf w) = va_rf w := by cases w <;> cases ty <;> rfl
theorem pf_row {ci k i a : Nat} {rest : List Value} (hx : p.tables.exec = Jvm.exec) (hb : c.code = bts y) (hown : s.vm.findClass (onm (ow y)) = some m.cls) (hts : ∀ w ∈ gtb, w.before args s = true) (hK : va_K D vwCl (tysO cy) s) (hci : ci < 7) (hk : k < nfo ci) (hka : gK h a = ci + 1) (hR : Rl b0 D cy H h)
    (hlink : Cond.fieldLink (onm (ow y)) i ((cO ci).2.1 k).1 ((cO ci).2.1 k).2.1 ((cO ci).2.1 k).2.2.1 ∈ gtb) (hfin : isf ci k = true → meth.name = "<init>" ∧ ow y = ci) {v : Value} (hn : narrow (tyO ci k) v = v) (hfit : fits (tyO ci k) v = true) (hdg : decode (bts y) pc = .ok (.putfield i, 3))
    (kk : ∀ (H1 : Heap) (j : Nat), H1.size = H.size → (∀ q : Nat, q ≠ a → H1[q]? = H[q]?) → va_at D vwCl (a, .inr (ci, (fls ci (gI h a) (gR h a)).set k v)) H1 → W p l e R s m args below meth c H1 (locs ++ [⟨a, j⟩]) cells slots Q (F0 m (pc + 3) ls rest)) : W p l e R s m args below meth c H locs cells slots Q (F0 m pc ls (v :: .ref a :: rest)) := by
  have hkN : k < (cO ci).2.2 := by rw [cO_n ci hci]; exact hk
  obtain ⟨f1, f2, f3, f4⟩ := fkO ci hci k hk
  have hin := inO ci hci
  have hc := cO_at ci hci
  have hap := va_apart (own := onm (ow y)) hts hin (tyO ci) (tyO_ok ci hci) (nmO_ok ci hci) hK hc
  obtain ⟨r, h1, cell, q1, q2, q3, q4⟩ := (hR.obj hci hka) 0 _ rfl
  have hr : r = cO ci := Option.some.inj (h1.symm.trans hc)
  subst hr
  obtain ⟨hS, hfc, kC, hkC, hkind⟩ := hK.1 ci _ hc
  obtain ⟨cf, kf, fi, f, hi, hsl⟩ := hS k hkN
  have hlay := hts _ (hin _ (u_in_lay hkN))
  have hd := tyO_ok ci hci k hkN
  have hst := (u_facts hfc hkC (u_lays hts hin hkN) hi).1
  unfold u_lay at hlay
  by_cases hfi : isf ci k = true
  · obtain ⟨hin2, how⟩ := hfin hfi
    rw [if_pos (by rw [f1]; exact hfi)] at hlay
    have hcf : m.cls = cf := by
      obtain ⟨_, _, c', _, _, _, -, -, hf', -, -, -, hown2, -⟩ := Cond.laysFinal_spec hlay
      have e1 : c' = cf := by have := hi.symm.trans hf'; simp at this; exact this.1.symm
      rw [f2, ← how] at hown2
      rw [← e1]; exact Option.some.inj (hown.symm.trans hown2)
    have h6 := u_fits hfc hkC hkind (Or.inr hlay) hi hd hn hfit
    refine W.putFinK hx hb hown (hts _ hlink) hi hst hcf hin2 (by rw [q2]; exact h6) q1 q3 (by rw [hsl]; exact k2_hasslot (q4 k hkN)) rfl rfl hdg fun H' e1 e2 e3 => ?_
    rw [hsl] at e1 ⊢
    exact kk H' _ e2 e3 ⟨_, hc, t_OB.to (V := updV (vp_V (fls ci (gI h a) (gR h a))) k v) ⟨_, e1, q2, q3, t_set q4 hap hkN v⟩ (fun j _ => vp_updV_set (by rw [fls_len]; exact hk) v j)⟩
  · rw [if_neg (by rw [f1]; exact hfi)] at hlay
    have h6 := u_store hfc hkC hkind hlay hi hd hn hfit
    refine W.putK hx hb (f := f) ⟨hown, hts _ hlink, ⟨_, _, _, hi⟩, hst⟩ (by rw [q2]; exact h6) q1 q3 (by rw [hsl]; exact k2_hasslot (q4 k hkN)) rfl rfl hdg fun H' e1 e2 e3 => ?_
    rw [hsl] at e1 ⊢
    exact kk H' _ e2 e3 ⟨_, hc, t_OB.to (V := updV (vp_V (fls ci (gI h a) (gR h a))) k v) ⟨_, e1, q2, q3, t_set q4 hap hkN v⟩ (fun j _ => vp_updV_set (by rw [fls_len]; exact hk) v j)⟩
theorem ptf_spec {ci k a : Nat} {v : Value} (hp : ptf y ci k v a h = some h') : ci < 7 ∧ gK h a = ci + 1 ∧ k < nfo ci ∧ (isf ci k = true → (nmo y).name = "<init>" ∧ ow y = ci) ∧ ((isr ci k = true ∧ ∃ w : Option Nat, v = va_rf w ∧ h' = pR h a k w) ∨ (isr ci k = false ∧ ∃ x : Int32, v = .int x ∧ h' = pI h a k x ∧ (ci = 5 → x = 0 ∨ x = 1))) := by
  unfold ptf at hp
  split at hp
  · rename_i hc
    refine ⟨hc.1, hc.2.1, hc.2.2.1, hc.2.2.2, ?_⟩
    split at hp
    · rename_i hr
      left
      refine ⟨hr, ?_⟩
      split at hp
      · rename_i b
        cases hp
        exact ⟨some b, rfl, rfl⟩
      · cases hp
        exact ⟨none, rfl, rfl⟩
      · cases hp
    · rename_i hr
      right
      refine ⟨by simpa using hr, ?_⟩
      split at hp
      · rename_i x
        split at hp
        · cases hp
        · rename_i hne
          cases hp
          refine ⟨x, rfl, rfl, fun h5 => ?_⟩
          by_cases h0 : x = 0 ∨ x = 1
          · exact h0
          · exact absurd ⟨h5, h0⟩ hne
      · cases hp
  · cases hp

theorem jk_putfield {i : Nat} (hC : Ctx b0 D cy p R s m args meth c y) (hS : Stt b0 D cy s y H locs ls L h) (hd : decode (bts y) pc = .ok (.putfield i, 3)) (ha : sxx y pc (.putfield i) L st h = aJ pc' L' st' h') (hrm : cells + (gX h' - gX h) ≤ R.cells ∧ slots + (gS h' - gS h) ≤ R.slots) (kk : ∀ (ls' : Array Slot) (H' : Heap) (locs' : List Loc), Stt b0 D cy s y H' locs' ls' L' h' → W p l e R s m args below meth c H' locs' (cells + (gX h' - gX h)) (slots + (gS h' - gS h)) Q (F0 m pc' ls' st')) : W p l e R s m args below meth c H locs cells slots Q (F0 m pc ls st) := by
  obtain ⟨hx, hb, hml, hown, hts, hb0, hK, hfr, hlo, hnm⟩ := hC
  simp only [sxx] at ha
  split at ha
  · rename_i q hq
    split at ha
    · rename_i v a st9
      split at ha
      · rename_i h9 hp
        simp only [aJ, Option.some.injEq, Sum.inr.injEq, Sum.inl.injEq, Prod.mk.injEq] at ha
        obtain ⟨rfl, rfl, rfl, rfl⟩ := ha
        obtain ⟨hci, hka, hk, hfi, hv⟩ := ptf_spec hp
        obtain ⟨hL, hR, hSS, hCn⟩ := id hS
        obtain ⟨f1, f2, f3, f4⟩ := fkO q.1 hci q.2.1 hk
        rcases hv with ⟨hr, w, rfl, rfl⟩ | ⟨hr, x, rfl, rfl, h5⟩
        · simp only [gX_pI, gS_pI, gX_pJ, gS_pJ, gX_pR, gS_pR, gX_cpI, gS_cpI, gX_cpJ, gS_cpJ, Nat.sub_self, Nat.add_zero] at kk
          refine pf_row hx hb hown hts hK hci hk hka hR (fd_link hq hci) (fun z => ⟨hnm (hfi z).1, (hfi z).2⟩) (narrow_rf _ _) (by cases w with | none => exact (f3 hr).1 | some b => exact (fits_ref _ b).trans (f3 hr).2) hd (fun H1 j e2 e3 e4 => ?_)
          refine kk _ H1 _ ⟨hL, hR.upd (a := a) e2 e3 ?_ ?_ rfl (fun _ => rfl), hSS.put e2 e3 (hR.a0 (by omega) (by omega)).2.1, hCn.cst (cst_pR hR (by omega) (by omega))⟩
          · have e9 : eOf cy (pR h a q.2.1 w) a = .inr (q.1, fls q.1 (gI h a) (gR (pR h a q.2.1 w) a)) := by
              have hk' : gK (pR h a q.2.1 w) a = q.1 + 1 := hka
              unfold eOf eCl
              rw [hk', if_pos (by omega)]
              rfl
            rw [e9]
            rw [fls_setR hk hr] at e4
            have e5 : gR (pR h a q.2.1 w) a = fun j => if j = q.2.1 then w else gR h a j := by
              funext j
              simp [gR, pR]
            rw [e5]
            exact e4
          · intro b hb9
            exact eOf_congr rfl rfl rfl rfl (by funext j; show (if b = a ∧ j = _ then _ else _) = _; rw [if_neg (fun z => hb9 z.1)]; rfl)
        · simp only [gX_pI, gS_pI, gX_pJ, gS_pJ, gX_pR, gS_pR, gX_cpI, gS_cpI, gX_cpJ, gS_cpJ, Nat.sub_self, Nat.add_zero] at kk
          have n1 : narrow (tyO q.1 q.2.1) (.int x) = .int x ∧ fits (tyO q.1 q.2.1) (.int x) = true := by
            rcases f4 hr with z | z
            · rw [z]
              exact ⟨rfl, rfl⟩
            · rw [z.2]
              rcases h5 z.1 with rfl | rfl
              · exact ⟨rfl, rfl⟩
              · exact ⟨rfl, rfl⟩
          refine pf_row hx hb hown hts hK hci hk hka hR (fd_link hq hci) (fun z => ⟨hnm (hfi z).1, (hfi z).2⟩) n1.1 n1.2 hd (fun H1 j e2 e3 e4 => ?_)
          refine kk _ H1 _ ⟨hL, hR.upd (a := a) e2 e3 ?_ ?_ rfl (fun _ => rfl), hSS.put e2 e3 (hR.a0 (by omega) (by omega)).2.1, hCn.cst (cst_pI hR (by omega) (by omega))⟩
          · have e9 : eOf cy (pI h a q.2.1 x) a = .inr (q.1, fls q.1 (gI (pI h a q.2.1 x) a) (gR h a)) := by
              have hk' : gK (pI h a q.2.1 x) a = q.1 + 1 := hka
              unfold eOf eCl
              rw [hk', if_pos (by omega)]
              rfl
            rw [e9]
            rw [fls_setI hk hr] at e4
            have e5 : gI (pI h a q.2.1 x) a = fun j => if j = q.2.1 then x else gI h a j := by
              funext j
              simp [gI, pI]
            rw [e5]
            exact e4
          · intro b hb9
            exact eOf_congr rfl rfl (by funext j; show (if b = a ∧ j = _ then _ else _) = _; rw [if_neg (fun z => hb9 z.1)]; rfl) rfl rfl
      · cases ha
    · cases ha
  · cases ha

theorem jk_arraylength (hC : Ctx b0 D cy p R s m args meth c y) (hS : Stt b0 D cy s y H locs ls L h) (hd : decode (bts y) pc = .ok (.arraylength, 1)) (ha : sxx y pc (.arraylength) L st h = aJ pc' L' st' h') (hrm : cells + (gX h' - gX h) ≤ R.cells ∧ slots + (gS h' - gS h) ≤ R.slots) (kk : ∀ (ls' : Array Slot) (H' : Heap) (locs' : List Loc), Stt b0 D cy s y H' locs' ls' L' h' → W p l e R s m args below meth c H' locs' (cells + (gX h' - gX h)) (slots + (gS h' - gS h)) Q (F0 m pc' ls' st')) : W p l e R s m args below meth c H locs cells slots Q (F0 m pc ls st) := by
  obtain ⟨hx, hb, hml, hown, hts, hb0, hK, hfr, hlo, hnm⟩ := hC
  simp only [sxx] at ha
  split at ha
  · rename_i a st9
    split at ha
    · rename_i hk
      simp only [aJ, Option.some.injEq, Sum.inr.injEq, Sum.inl.injEq, Prod.mk.injEq] at ha
      obtain ⟨rfl, rfl, rfl, rfl⟩ := ha
      simp only [Nat.sub_self, Nat.add_zero] at kk
      obtain ⟨hL, hR, hSS, hCn⟩ := id hS
      have hcase : gK h a = 8 ∨ gK h a = 9 ∨ gK h a = 10 ∨ (gK h a = 11 ∨ gK h a = 12 ∨ gK h a = 13) ∨ tbK (gK h a) = true ∨ btK (gK h a) = true := by
        rcases hk with hk | hk | hk
        · omega
        · exact Or.inr (Or.inr (Or.inr (Or.inr (Or.inl hk))))
        · exact Or.inr (Or.inr (Or.inr (Or.inr (Or.inr hk))))
      rcases hcase with z | z | z | z | z | z
      · exact W.alen hx hb (hR.ai z) ((hK.2 0 _ rfl).1 _ (fun j => .int (gI h a j))) (by rw [arrV_size]) rfl rfl hd (kk _ _ _ hS)
      · exact W.alen hx hb (hR.aj z) ((hK.2 1 _ rfl).1 _ (fun j => .long (gJ h a j))) (by rw [arrV_size]) rfl rfl hd (kk _ _ _ hS)
      · exact W.alen hx hb (hR.az z) ((hK.2 2 _ rfl).1 _ (fun j => .int (gI h a j))) (by rw [arrV_size]) rfl rfl hd (kk _ _ _ hS)
      · have h9 := hR.aq z
        rcases z with z | z | z <;> rw [z] at h9
        · exact W.alen hx hb h9 ((hK.2 3 _ rfl).1 _ (fun j => va_rf (gR h a j))) (by rw [arrV_size]) rfl rfl hd (kk _ _ _ hS)
        · exact W.alen hx hb h9 ((hK.2 4 _ rfl).1 _ (fun j => va_rf (gR h a j))) (by rw [arrV_size]) rfl rfl hd (kk _ _ _ hS)
        · exact W.alen hx hb h9 ((hK.2 5 _ rfl).1 _ (fun j => va_rf (gR h a j))) (by rw [arrV_size]) rfl rfl hd (kk _ _ _ hS)
      · exact va_tlen hx hb (hCn.2.1 _ z) hSS rfl hd (kk _ _ _ hS)
      · exact va_tlen hx hb (hCn.2.2.1 _ z) hSS rfl hd (kk _ _ _ hS)
    · cases ha
  · cases ha

theorem jk_goto {o : Int} (hC : Ctx b0 D cy p R s m args meth c y) (hS : Stt b0 D cy s y H locs ls L h) (hd : decode (bts y) pc = .ok (.goto o, 3)) (ha : sxx y pc (.goto o) L st h = aJ pc' L' st' h') (hrm : cells + (gX h' - gX h) ≤ R.cells ∧ slots + (gS h' - gS h) ≤ R.slots) (kk : ∀ (ls' : Array Slot) (H' : Heap) (locs' : List Loc), Stt b0 D cy s y H' locs' ls' L' h' → W p l e R s m args below meth c H' locs' (cells + (gX h' - gX h)) (slots + (gS h' - gS h)) Q (F0 m pc' ls' st')) : W p l e R s m args below meth c H locs cells slots Q (F0 m pc ls st) := by
  obtain ⟨hx, hb, hml, hown, hts, hb0, hK, hfr, hlo, hnm⟩ := hC
  simp only [sxx] at ha
  split at ha
  · rename_i h0
    simp only [aJ, Option.some.injEq, Sum.inr.injEq, Sum.inl.injEq, Prod.mk.injEq] at ha
    obtain ⟨rfl, rfl, rfl, rfl⟩ := ha
    simp only [Nat.sub_self, Nat.add_zero] at kk
    exact lv_goto hx hb hd (by unfold tgp; omega) (kk _ _ _ hS)
  · cases ha

theorem jk_if_icmp_eq {o : Int} (hC : Ctx b0 D cy p R s m args meth c y) (hS : Stt b0 D cy s y H locs ls L h) (hd : decode (bts y) pc = .ok (.if_icmp .eq o, 3)) (ha : sxx y pc (.if_icmp .eq o) L st h = aJ pc' L' st' h') (hrm : cells + (gX h' - gX h) ≤ R.cells ∧ slots + (gS h' - gS h) ≤ R.slots) (kk : ∀ (ls' : Array Slot) (H' : Heap) (locs' : List Loc), Stt b0 D cy s y H' locs' ls' L' h' → W p l e R s m args below meth c H' locs' (cells + (gX h' - gX h)) (slots + (gS h' - gS h)) Q (F0 m pc' ls' st')) : W p l e R s m args below meth c H locs cells slots Q (F0 m pc ls st) := by
  obtain ⟨hx, hb, hml, hown, hts, hb0, hK, hfr, hlo, hnm⟩ := hC
  simp only [sxx] at ha
  split at ha
  · split at ha
    · rename_i h0
      split at ha
      · rename_i hc
        simp only [aJ, Option.some.injEq, Sum.inr.injEq, Sum.inl.injEq, Prod.mk.injEq] at ha
        obtain ⟨rfl, rfl, rfl, rfl⟩ := ha
        simp only [Nat.sub_self, Nat.add_zero] at kk
        simp only [cjp, decide_eq_true_eq] at hc
        exact lv_icmp_eq hx hb hd (by unfold tgp; omega) (fun _ => kk _ _ _ hS) (fun z => absurd hc z)
      · rename_i hc
        simp only [aJ, Option.some.injEq, Sum.inr.injEq, Sum.inl.injEq, Prod.mk.injEq] at ha
        obtain ⟨rfl, rfl, rfl, rfl⟩ := ha
        simp only [Nat.sub_self, Nat.add_zero] at kk
        simp only [cjp, decide_eq_true_eq] at hc
        exact lv_icmp_eq (tgt := tgp pc o) hx hb hd (by unfold tgp; omega) (fun z => absurd z hc) (fun _ => kk _ _ _ hS)
    · cases ha
  · cases ha

theorem jk_if_icmp_ne {o : Int} (hC : Ctx b0 D cy p R s m args meth c y) (hS : Stt b0 D cy s y H locs ls L h) (hd : decode (bts y) pc = .ok (.if_icmp .ne o, 3)) (ha : sxx y pc (.if_icmp .ne o) L st h = aJ pc' L' st' h') (hrm : cells + (gX h' - gX h) ≤ R.cells ∧ slots + (gS h' - gS h) ≤ R.slots) (kk : ∀ (ls' : Array Slot) (H' : Heap) (locs' : List Loc), Stt b0 D cy s y H' locs' ls' L' h' → W p l e R s m args below meth c H' locs' (cells + (gX h' - gX h)) (slots + (gS h' - gS h)) Q (F0 m pc' ls' st')) : W p l e R s m args below meth c H locs cells slots Q (F0 m pc ls st) := by
  obtain ⟨hx, hb, hml, hown, hts, hb0, hK, hfr, hlo, hnm⟩ := hC
  simp only [sxx] at ha
  split at ha
  · split at ha
    · rename_i h0
      split at ha
      · rename_i hc
        simp only [aJ, Option.some.injEq, Sum.inr.injEq, Sum.inl.injEq, Prod.mk.injEq] at ha
        obtain ⟨rfl, rfl, rfl, rfl⟩ := ha
        simp only [Nat.sub_self, Nat.add_zero] at kk
        simp only [cjp, decide_eq_true_eq] at hc
        exact lv_icmp_ne hx hb hd (by unfold tgp; omega) (fun _ => kk _ _ _ hS) (fun z => absurd z hc)
      · rename_i hc
        simp only [aJ, Option.some.injEq, Sum.inr.injEq, Sum.inl.injEq, Prod.mk.injEq] at ha
        obtain ⟨rfl, rfl, rfl, rfl⟩ := ha
        simp only [Nat.sub_self, Nat.add_zero] at kk
        simp only [cjp, decide_eq_true_eq] at hc
        exact lv_icmp_ne (tgt := tgp pc o) hx hb hd (by unfold tgp; omega) (fun z => absurd z hc) (fun _ => kk _ _ _ hS)
    · cases ha
  · cases ha

theorem jk_if_icmp_lt {o : Int} (hC : Ctx b0 D cy p R s m args meth c y) (hS : Stt b0 D cy s y H locs ls L h) (hd : decode (bts y) pc = .ok (.if_icmp .lt o, 3)) (ha : sxx y pc (.if_icmp .lt o) L st h = aJ pc' L' st' h') (hrm : cells + (gX h' - gX h) ≤ R.cells ∧ slots + (gS h' - gS h) ≤ R.slots) (kk : ∀ (ls' : Array Slot) (H' : Heap) (locs' : List Loc), Stt b0 D cy s y H' locs' ls' L' h' → W p l e R s m args below meth c H' locs' (cells + (gX h' - gX h)) (slots + (gS h' - gS h)) Q (F0 m pc' ls' st')) : W p l e R s m args below meth c H locs cells slots Q (F0 m pc ls st) := by
  obtain ⟨hx, hb, hml, hown, hts, hb0, hK, hfr, hlo, hnm⟩ := hC
  simp only [sxx] at ha
  split at ha
  · split at ha
    · rename_i h0
      split at ha
      · rename_i hc
        simp only [aJ, Option.some.injEq, Sum.inr.injEq, Sum.inl.injEq, Prod.mk.injEq] at ha
        obtain ⟨rfl, rfl, rfl, rfl⟩ := ha
        simp only [Nat.sub_self, Nat.add_zero] at kk
        simp only [cjp, decide_eq_true_eq] at hc
        exact lv_icmp_lt hx hb hd (by unfold tgp; omega) (fun _ => kk _ _ _ hS) (fun z => absurd hc z)
      · rename_i hc
        simp only [aJ, Option.some.injEq, Sum.inr.injEq, Sum.inl.injEq, Prod.mk.injEq] at ha
        obtain ⟨rfl, rfl, rfl, rfl⟩ := ha
        simp only [Nat.sub_self, Nat.add_zero] at kk
        simp only [cjp, decide_eq_true_eq] at hc
        exact lv_icmp_lt (tgt := tgp pc o) hx hb hd (by unfold tgp; omega) (fun z => absurd z hc) (fun _ => kk _ _ _ hS)
    · cases ha
  · cases ha

theorem jk_if_icmp_ge {o : Int} (hC : Ctx b0 D cy p R s m args meth c y) (hS : Stt b0 D cy s y H locs ls L h) (hd : decode (bts y) pc = .ok (.if_icmp .ge o, 3)) (ha : sxx y pc (.if_icmp .ge o) L st h = aJ pc' L' st' h') (hrm : cells + (gX h' - gX h) ≤ R.cells ∧ slots + (gS h' - gS h) ≤ R.slots) (kk : ∀ (ls' : Array Slot) (H' : Heap) (locs' : List Loc), Stt b0 D cy s y H' locs' ls' L' h' → W p l e R s m args below meth c H' locs' (cells + (gX h' - gX h)) (slots + (gS h' - gS h)) Q (F0 m pc' ls' st')) : W p l e R s m args below meth c H locs cells slots Q (F0 m pc ls st) := by
  obtain ⟨hx, hb, hml, hown, hts, hb0, hK, hfr, hlo, hnm⟩ := hC
  simp only [sxx] at ha
  split at ha
  · split at ha
    · rename_i h0
      split at ha
      · rename_i hc
        simp only [aJ, Option.some.injEq, Sum.inr.injEq, Sum.inl.injEq, Prod.mk.injEq] at ha
        obtain ⟨rfl, rfl, rfl, rfl⟩ := ha
        simp only [Nat.sub_self, Nat.add_zero] at kk
        simp only [cjp, decide_eq_true_eq] at hc
        exact lv_icmp_ge hx hb hd (by unfold tgp; omega) (fun _ => kk _ _ _ hS) (fun z => absurd hc z)
      · rename_i hc
        simp only [aJ, Option.some.injEq, Sum.inr.injEq, Sum.inl.injEq, Prod.mk.injEq] at ha
        obtain ⟨rfl, rfl, rfl, rfl⟩ := ha
        simp only [Nat.sub_self, Nat.add_zero] at kk
        simp only [cjp, decide_eq_true_eq] at hc
        exact lv_icmp_ge (tgt := tgp pc o) hx hb hd (by unfold tgp; omega) (fun z => absurd z hc) (fun _ => kk _ _ _ hS)
    · cases ha
  · cases ha

theorem jk_if_icmp_gt {o : Int} (hC : Ctx b0 D cy p R s m args meth c y) (hS : Stt b0 D cy s y H locs ls L h) (hd : decode (bts y) pc = .ok (.if_icmp .gt o, 3)) (ha : sxx y pc (.if_icmp .gt o) L st h = aJ pc' L' st' h') (hrm : cells + (gX h' - gX h) ≤ R.cells ∧ slots + (gS h' - gS h) ≤ R.slots) (kk : ∀ (ls' : Array Slot) (H' : Heap) (locs' : List Loc), Stt b0 D cy s y H' locs' ls' L' h' → W p l e R s m args below meth c H' locs' (cells + (gX h' - gX h)) (slots + (gS h' - gS h)) Q (F0 m pc' ls' st')) : W p l e R s m args below meth c H locs cells slots Q (F0 m pc ls st) := by
  obtain ⟨hx, hb, hml, hown, hts, hb0, hK, hfr, hlo, hnm⟩ := hC
  simp only [sxx] at ha
  split at ha
  · split at ha
    · rename_i h0
      split at ha
      · rename_i hc
        simp only [aJ, Option.some.injEq, Sum.inr.injEq, Sum.inl.injEq, Prod.mk.injEq] at ha
        obtain ⟨rfl, rfl, rfl, rfl⟩ := ha
        simp only [Nat.sub_self, Nat.add_zero] at kk
        simp only [cjp, decide_eq_true_eq] at hc
        exact lv_icmp_gt hx hb hd (by unfold tgp; omega) (fun _ => kk _ _ _ hS) (fun z => absurd hc z)
      · rename_i hc
        simp only [aJ, Option.some.injEq, Sum.inr.injEq, Sum.inl.injEq, Prod.mk.injEq] at ha
        obtain ⟨rfl, rfl, rfl, rfl⟩ := ha
        simp only [Nat.sub_self, Nat.add_zero] at kk
        simp only [cjp, decide_eq_true_eq] at hc
        exact lv_icmp_gt (tgt := tgp pc o) hx hb hd (by unfold tgp; omega) (fun z => absurd z hc) (fun _ => kk _ _ _ hS)
    · cases ha
  · cases ha

theorem jk_if_icmp_le {o : Int} (hC : Ctx b0 D cy p R s m args meth c y) (hS : Stt b0 D cy s y H locs ls L h) (hd : decode (bts y) pc = .ok (.if_icmp .le o, 3)) (ha : sxx y pc (.if_icmp .le o) L st h = aJ pc' L' st' h') (hrm : cells + (gX h' - gX h) ≤ R.cells ∧ slots + (gS h' - gS h) ≤ R.slots) (kk : ∀ (ls' : Array Slot) (H' : Heap) (locs' : List Loc), Stt b0 D cy s y H' locs' ls' L' h' → W p l e R s m args below meth c H' locs' (cells + (gX h' - gX h)) (slots + (gS h' - gS h)) Q (F0 m pc' ls' st')) : W p l e R s m args below meth c H locs cells slots Q (F0 m pc ls st) := by
  obtain ⟨hx, hb, hml, hown, hts, hb0, hK, hfr, hlo, hnm⟩ := hC
  simp only [sxx] at ha
  split at ha
  · split at ha
    · rename_i h0
      split at ha
      · rename_i hc
        simp only [aJ, Option.some.injEq, Sum.inr.injEq, Sum.inl.injEq, Prod.mk.injEq] at ha
        obtain ⟨rfl, rfl, rfl, rfl⟩ := ha
        simp only [Nat.sub_self, Nat.add_zero] at kk
        simp only [cjp, decide_eq_true_eq] at hc
        exact lv_icmp_le hx hb hd (by unfold tgp; omega) (fun _ => kk _ _ _ hS) (fun z => absurd hc z)
      · rename_i hc
        simp only [aJ, Option.some.injEq, Sum.inr.injEq, Sum.inl.injEq, Prod.mk.injEq] at ha
        obtain ⟨rfl, rfl, rfl, rfl⟩ := ha
        simp only [Nat.sub_self, Nat.add_zero] at kk
        simp only [cjp, decide_eq_true_eq] at hc
        exact lv_icmp_le (tgt := tgp pc o) hx hb hd (by unfold tgp; omega) (fun z => absurd z hc) (fun _ => kk _ _ _ hS)
    · cases ha
  · cases ha

theorem jk_ifCond_eq {o : Int} (hC : Ctx b0 D cy p R s m args meth c y) (hS : Stt b0 D cy s y H locs ls L h) (hd : decode (bts y) pc = .ok (.ifCond .eq o, 3)) (ha : sxx y pc (.ifCond .eq o) L st h = aJ pc' L' st' h') (hrm : cells + (gX h' - gX h) ≤ R.cells ∧ slots + (gS h' - gS h) ≤ R.slots) (kk : ∀ (ls' : Array Slot) (H' : Heap) (locs' : List Loc), Stt b0 D cy s y H' locs' ls' L' h' → W p l e R s m args below meth c H' locs' (cells + (gX h' - gX h)) (slots + (gS h' - gS h)) Q (F0 m pc' ls' st')) : W p l e R s m args below meth c H locs cells slots Q (F0 m pc ls st) := by
  obtain ⟨hx, hb, hml, hown, hts, hb0, hK, hfr, hlo, hnm⟩ := hC
  simp only [sxx] at ha
  split at ha
  · split at ha
    · rename_i h0
      split at ha
      · rename_i hc
        simp only [aJ, Option.some.injEq, Sum.inr.injEq, Sum.inl.injEq, Prod.mk.injEq] at ha
        obtain ⟨rfl, rfl, rfl, rfl⟩ := ha
        simp only [Nat.sub_self, Nat.add_zero] at kk
        simp only [cjp, decide_eq_true_eq] at hc
        exact lv_if_eq hx hb hd (by unfold tgp; omega) (fun _ => kk _ _ _ hS) (fun z => absurd hc z)
      · rename_i hc
        simp only [aJ, Option.some.injEq, Sum.inr.injEq, Sum.inl.injEq, Prod.mk.injEq] at ha
        obtain ⟨rfl, rfl, rfl, rfl⟩ := ha
        simp only [Nat.sub_self, Nat.add_zero] at kk
        simp only [cjp, decide_eq_true_eq] at hc
        exact lv_if_eq (tgt := tgp pc o) hx hb hd (by unfold tgp; omega) (fun z => absurd z hc) (fun _ => kk _ _ _ hS)
    · cases ha
  · cases ha

theorem jk_ifCond_ne {o : Int} (hC : Ctx b0 D cy p R s m args meth c y) (hS : Stt b0 D cy s y H locs ls L h) (hd : decode (bts y) pc = .ok (.ifCond .ne o, 3)) (ha : sxx y pc (.ifCond .ne o) L st h = aJ pc' L' st' h') (hrm : cells + (gX h' - gX h) ≤ R.cells ∧ slots + (gS h' - gS h) ≤ R.slots) (kk : ∀ (ls' : Array Slot) (H' : Heap) (locs' : List Loc), Stt b0 D cy s y H' locs' ls' L' h' → W p l e R s m args below meth c H' locs' (cells + (gX h' - gX h)) (slots + (gS h' - gS h)) Q (F0 m pc' ls' st')) : W p l e R s m args below meth c H locs cells slots Q (F0 m pc ls st) := by
  obtain ⟨hx, hb, hml, hown, hts, hb0, hK, hfr, hlo, hnm⟩ := hC
  simp only [sxx] at ha
  split at ha
  · split at ha
    · rename_i h0
      split at ha
      · rename_i hc
        simp only [aJ, Option.some.injEq, Sum.inr.injEq, Sum.inl.injEq, Prod.mk.injEq] at ha
        obtain ⟨rfl, rfl, rfl, rfl⟩ := ha
        simp only [Nat.sub_self, Nat.add_zero] at kk
        simp only [cjp, decide_eq_true_eq] at hc
        exact lv_if_ne hx hb hd (by unfold tgp; omega) (fun _ => kk _ _ _ hS) (fun z => absurd z hc)
      · rename_i hc
        simp only [aJ, Option.some.injEq, Sum.inr.injEq, Sum.inl.injEq, Prod.mk.injEq] at ha
        obtain ⟨rfl, rfl, rfl, rfl⟩ := ha
        simp only [Nat.sub_self, Nat.add_zero] at kk
        simp only [cjp, decide_eq_true_eq] at hc
        exact lv_if_ne (tgt := tgp pc o) hx hb hd (by unfold tgp; omega) (fun z => absurd z hc) (fun _ => kk _ _ _ hS)
    · cases ha
  · cases ha

theorem jk_ifCond_lt {o : Int} (hC : Ctx b0 D cy p R s m args meth c y) (hS : Stt b0 D cy s y H locs ls L h) (hd : decode (bts y) pc = .ok (.ifCond .lt o, 3)) (ha : sxx y pc (.ifCond .lt o) L st h = aJ pc' L' st' h') (hrm : cells + (gX h' - gX h) ≤ R.cells ∧ slots + (gS h' - gS h) ≤ R.slots) (kk : ∀ (ls' : Array Slot) (H' : Heap) (locs' : List Loc), Stt b0 D cy s y H' locs' ls' L' h' → W p l e R s m args below meth c H' locs' (cells + (gX h' - gX h)) (slots + (gS h' - gS h)) Q (F0 m pc' ls' st')) : W p l e R s m args below meth c H locs cells slots Q (F0 m pc ls st) := by
  obtain ⟨hx, hb, hml, hown, hts, hb0, hK, hfr, hlo, hnm⟩ := hC
  simp only [sxx] at ha
  split at ha
  · split at ha
    · rename_i h0
      split at ha
      · rename_i hc
        simp only [aJ, Option.some.injEq, Sum.inr.injEq, Sum.inl.injEq, Prod.mk.injEq] at ha
        obtain ⟨rfl, rfl, rfl, rfl⟩ := ha
        simp only [Nat.sub_self, Nat.add_zero] at kk
        simp only [cjp, decide_eq_true_eq] at hc
        exact lv_if_lt hx hb hd (by unfold tgp; omega) (fun _ => kk _ _ _ hS) (fun z => absurd hc z)
      · rename_i hc
        simp only [aJ, Option.some.injEq, Sum.inr.injEq, Sum.inl.injEq, Prod.mk.injEq] at ha
        obtain ⟨rfl, rfl, rfl, rfl⟩ := ha
        simp only [Nat.sub_self, Nat.add_zero] at kk
        simp only [cjp, decide_eq_true_eq] at hc
        exact lv_if_lt (tgt := tgp pc o) hx hb hd (by unfold tgp; omega) (fun z => absurd z hc) (fun _ => kk _ _ _ hS)
    · cases ha
  · cases ha

theorem jk_ifCond_ge {o : Int} (hC : Ctx b0 D cy p R s m args meth c y) (hS : Stt b0 D cy s y H locs ls L h) (hd : decode (bts y) pc = .ok (.ifCond .ge o, 3)) (ha : sxx y pc (.ifCond .ge o) L st h = aJ pc' L' st' h') (hrm : cells + (gX h' - gX h) ≤ R.cells ∧ slots + (gS h' - gS h) ≤ R.slots) (kk : ∀ (ls' : Array Slot) (H' : Heap) (locs' : List Loc), Stt b0 D cy s y H' locs' ls' L' h' → W p l e R s m args below meth c H' locs' (cells + (gX h' - gX h)) (slots + (gS h' - gS h)) Q (F0 m pc' ls' st')) : W p l e R s m args below meth c H locs cells slots Q (F0 m pc ls st) := by
  obtain ⟨hx, hb, hml, hown, hts, hb0, hK, hfr, hlo, hnm⟩ := hC
  simp only [sxx] at ha
  split at ha
  · split at ha
    · rename_i h0
      split at ha
      · rename_i hc
        simp only [aJ, Option.some.injEq, Sum.inr.injEq, Sum.inl.injEq, Prod.mk.injEq] at ha
        obtain ⟨rfl, rfl, rfl, rfl⟩ := ha
        simp only [Nat.sub_self, Nat.add_zero] at kk
        simp only [cjp, decide_eq_true_eq] at hc
        exact lv_if_ge hx hb hd (by unfold tgp; omega) (fun _ => kk _ _ _ hS) (fun z => absurd hc z)
      · rename_i hc
        simp only [aJ, Option.some.injEq, Sum.inr.injEq, Sum.inl.injEq, Prod.mk.injEq] at ha
        obtain ⟨rfl, rfl, rfl, rfl⟩ := ha
        simp only [Nat.sub_self, Nat.add_zero] at kk
        simp only [cjp, decide_eq_true_eq] at hc
        exact lv_if_ge (tgt := tgp pc o) hx hb hd (by unfold tgp; omega) (fun z => absurd z hc) (fun _ => kk _ _ _ hS)
    · cases ha
  · cases ha

theorem jk_ifCond_gt {o : Int} (hC : Ctx b0 D cy p R s m args meth c y) (hS : Stt b0 D cy s y H locs ls L h) (hd : decode (bts y) pc = .ok (.ifCond .gt o, 3)) (ha : sxx y pc (.ifCond .gt o) L st h = aJ pc' L' st' h') (hrm : cells + (gX h' - gX h) ≤ R.cells ∧ slots + (gS h' - gS h) ≤ R.slots) (kk : ∀ (ls' : Array Slot) (H' : Heap) (locs' : List Loc), Stt b0 D cy s y H' locs' ls' L' h' → W p l e R s m args below meth c H' locs' (cells + (gX h' - gX h)) (slots + (gS h' - gS h)) Q (F0 m pc' ls' st')) : W p l e R s m args below meth c H locs cells slots Q (F0 m pc ls st) := by
  obtain ⟨hx, hb, hml, hown, hts, hb0, hK, hfr, hlo, hnm⟩ := hC
  simp only [sxx] at ha
  split at ha
  · split at ha
    · rename_i h0
      split at ha
      · rename_i hc
        simp only [aJ, Option.some.injEq, Sum.inr.injEq, Sum.inl.injEq, Prod.mk.injEq] at ha
        obtain ⟨rfl, rfl, rfl, rfl⟩ := ha
        simp only [Nat.sub_self, Nat.add_zero] at kk
        simp only [cjp, decide_eq_true_eq] at hc
        exact lv_if_gt hx hb hd (by unfold tgp; omega) (fun _ => kk _ _ _ hS) (fun z => absurd hc z)
      · rename_i hc
        simp only [aJ, Option.some.injEq, Sum.inr.injEq, Sum.inl.injEq, Prod.mk.injEq] at ha
        obtain ⟨rfl, rfl, rfl, rfl⟩ := ha
        simp only [Nat.sub_self, Nat.add_zero] at kk
        simp only [cjp, decide_eq_true_eq] at hc
        exact lv_if_gt (tgt := tgp pc o) hx hb hd (by unfold tgp; omega) (fun z => absurd z hc) (fun _ => kk _ _ _ hS)
    · cases ha
  · cases ha

theorem jk_ifCond_le {o : Int} (hC : Ctx b0 D cy p R s m args meth c y) (hS : Stt b0 D cy s y H locs ls L h) (hd : decode (bts y) pc = .ok (.ifCond .le o, 3)) (ha : sxx y pc (.ifCond .le o) L st h = aJ pc' L' st' h') (hrm : cells + (gX h' - gX h) ≤ R.cells ∧ slots + (gS h' - gS h) ≤ R.slots) (kk : ∀ (ls' : Array Slot) (H' : Heap) (locs' : List Loc), Stt b0 D cy s y H' locs' ls' L' h' → W p l e R s m args below meth c H' locs' (cells + (gX h' - gX h)) (slots + (gS h' - gS h)) Q (F0 m pc' ls' st')) : W p l e R s m args below meth c H locs cells slots Q (F0 m pc ls st) := by
  obtain ⟨hx, hb, hml, hown, hts, hb0, hK, hfr, hlo, hnm⟩ := hC
  simp only [sxx] at ha
  split at ha
  · split at ha
    · rename_i h0
      split at ha
      · rename_i hc
        simp only [aJ, Option.some.injEq, Sum.inr.injEq, Sum.inl.injEq, Prod.mk.injEq] at ha
        obtain ⟨rfl, rfl, rfl, rfl⟩ := ha
        simp only [Nat.sub_self, Nat.add_zero] at kk
        simp only [cjp, decide_eq_true_eq] at hc
        exact lv_if_le hx hb hd (by unfold tgp; omega) (fun _ => kk _ _ _ hS) (fun z => absurd hc z)
      · rename_i hc
        simp only [aJ, Option.some.injEq, Sum.inr.injEq, Sum.inl.injEq, Prod.mk.injEq] at ha
        obtain ⟨rfl, rfl, rfl, rfl⟩ := ha
        simp only [Nat.sub_self, Nat.add_zero] at kk
        simp only [cjp, decide_eq_true_eq] at hc
        exact lv_if_le (tgt := tgp pc o) hx hb hd (by unfold tgp; omega) (fun z => absurd z hc) (fun _ => kk _ _ _ hS)
    · cases ha
  · cases ha

theorem jk_ifnonnull {o : Int} (hC : Ctx b0 D cy p R s m args meth c y) (hS : Stt b0 D cy s y H locs ls L h) (hd : decode (bts y) pc = .ok (.ifnonnull o, 3)) (ha : sxx y pc (.ifnonnull o) L st h = aJ pc' L' st' h') (hrm : cells + (gX h' - gX h) ≤ R.cells ∧ slots + (gS h' - gS h) ≤ R.slots) (kk : ∀ (ls' : Array Slot) (H' : Heap) (locs' : List Loc), Stt b0 D cy s y H' locs' ls' L' h' → W p l e R s m args below meth c H' locs' (cells + (gX h' - gX h)) (slots + (gS h' - gS h)) Q (F0 m pc' ls' st')) : W p l e R s m args below meth c H locs cells slots Q (F0 m pc ls st) := by
  obtain ⟨hx, hb, hml, hown, hts, hb0, hK, hfr, hlo, hnm⟩ := hC
  simp only [sxx] at ha
  split at ha
  · split at ha
    · rename_i h0
      simp only [aJ, Option.some.injEq, Sum.inr.injEq, Sum.inl.injEq, Prod.mk.injEq] at ha
      obtain ⟨rfl, rfl, rfl, rfl⟩ := ha
      simp only [Nat.sub_self, Nat.add_zero] at kk
      exact lv_ifnonnull hx hb hd (by unfold tgp; omega) (kk _ _ _ hS)
    · cases ha
  · simp only [aJ, Option.some.injEq, Sum.inr.injEq, Sum.inl.injEq, Prod.mk.injEq] at ha
    obtain ⟨rfl, rfl, rfl, rfl⟩ := ha
    simp only [Nat.sub_self, Nat.add_zero] at kk
    exact lv_ifnonnullN hx hb hd (kk _ _ _ hS)
  · cases ha

theorem jk_ifnull {o : Int} (hC : Ctx b0 D cy p R s m args meth c y) (hS : Stt b0 D cy s y H locs ls L h) (hd : decode (bts y) pc = .ok (.ifnull o, 3)) (ha : sxx y pc (.ifnull o) L st h = aJ pc' L' st' h') (hrm : cells + (gX h' - gX h) ≤ R.cells ∧ slots + (gS h' - gS h) ≤ R.slots) (kk : ∀ (ls' : Array Slot) (H' : Heap) (locs' : List Loc), Stt b0 D cy s y H' locs' ls' L' h' → W p l e R s m args below meth c H' locs' (cells + (gX h' - gX h)) (slots + (gS h' - gS h)) Q (F0 m pc' ls' st')) : W p l e R s m args below meth c H locs cells slots Q (F0 m pc ls st) := by
  obtain ⟨hx, hb, hml, hown, hts, hb0, hK, hfr, hlo, hnm⟩ := hC
  simp only [sxx] at ha
  split at ha
  · simp only [aJ, Option.some.injEq, Sum.inr.injEq, Sum.inl.injEq, Prod.mk.injEq] at ha
    obtain ⟨rfl, rfl, rfl, rfl⟩ := ha
    simp only [Nat.sub_self, Nat.add_zero] at kk
    exact lv_ifnull hx hb hd (kk _ _ _ hS)
  · cases ha

theorem jk_tableswitch {d lo hi : Int} {offs : Array Int} {len : Nat} (hC : Ctx b0 D cy p R s m args meth c y) (hS : Stt b0 D cy s y H locs ls L h) (hd : decode (bts y) pc = .ok (.tableswitch d lo hi offs, len)) (ha : sxx y pc (.tableswitch d lo hi offs) L st h = aJ pc' L' st' h') (hrm : cells + (gX h' - gX h) ≤ R.cells ∧ slots + (gS h' - gS h) ≤ R.slots) (kk : ∀ (ls' : Array Slot) (H' : Heap) (locs' : List Loc), Stt b0 D cy s y H' locs' ls' L' h' → W p l e R s m args below meth c H' locs' (cells + (gX h' - gX h)) (slots + (gS h' - gS h)) Q (F0 m pc' ls' st')) : W p l e R s m args below meth c H locs cells slots Q (F0 m pc ls st) := by
  obtain ⟨hx, hb, hml, hown, hts, hb0, hK, hfr, hlo, hnm⟩ := hC
  simp only [sxx] at ha
  split at ha
  · split at ha
    · rename_i hxx
      split at ha
      · rename_i h0
        simp only [aJ, Option.some.injEq, Sum.inr.injEq, Sum.inl.injEq, Prod.mk.injEq] at ha
        obtain ⟨rfl, rfl, rfl, rfl⟩ := ha
        simp only [Nat.sub_self, Nat.add_zero] at kk
        exact lv_tableOut hx hb hd hxx (by unfold tgp; omega) (kk _ _ _ hS)
      · cases ha
    · rename_i hxx
      split at ha
      · rename_i o ho
        split at ha
        · rename_i h0
          simp only [aJ, Option.some.injEq, Sum.inr.injEq, Sum.inl.injEq, Prod.mk.injEq] at ha
          obtain ⟨rfl, rfl, rfl, rfl⟩ := ha
          simp only [Nat.sub_self, Nat.add_zero] at kk
          exact lv_tableIn hx hb hd (fun z => hxx (Or.inl z)) (fun z => hxx (Or.inr z)) ho (by unfold tgp; omega) (kk _ _ _ hS)
        · cases ha
      · cases ha
  · cases ha

