/-! one rewriting row an instruction: V at pc is V at the next -/
section
variable {y pc : Nat} {L st : List Value} {h : Hp} {K : Option Value → Hp → Prop}
theorem V_to {len pc' : Nat} {ins : Instr} {L' st' : List Value} {h' : Hp} (hd : decode (bts y) pc = .ok (ins, len)) (hl : lnB ins len = true) (hs : sxx y pc ins L st h = aJ pc' L' st' h') : V y pc L st h K = V y pc' L' st' h' K := V_jump ((act_of hd hl).trans hs)
theorem V_toC {len pc' : Nat} {ins : Instr} {L' st' : List Value} {h' : Hp} {C : Prop} [Decidable C] (hd : decode (bts y) pc = .ok (ins, len)) (hl : lnB ins len = true) (hs : sxx y pc ins L st h = if C then aJ pc' L' st' h' else none) : V y pc L st h K = (C ∧ V y pc' L' st' h' K) := by
  by_cases hc : C
  · rw [if_pos hc] at hs
    rw [V_to hd hl hs]
    simp [hc]
  · rw [if_neg hc] at hs
    rw [V_dead ((act_of hd hl).trans hs)]
    simp [hc]
theorem V_toB {len p1 p2 : Nat} {ins : Instr} {L' st' : List Value} {h' : Hp} {C : Prop} [Decidable C] (hd : decode (bts y) pc = .ok (ins, len)) (hl : lnB ins len = true) (hs : sxx y pc ins L st h = if C then aJ p1 L' st' h' else aJ p2 L' st' h') : V y pc L st h K = if C then V y p1 L' st' h' K else V y p2 L' st' h' K := by
  by_cases hc : C
  · rw [if_pos hc] at hs
    rw [V_to hd hl hs, if_pos hc]
  · rw [if_neg hc] at hs
    rw [V_to hd hl hs, if_neg hc]
theorem V_getI {i ci k q : Nat} {a : Nat} (hd : decode (bts y) pc = .ok (.getfield i, 3)) (hf : tfind fdT (ow y) i = some (ci, k, q)) (hc : (decide (ci < 7) && decide (k < nfo ci) && !isr ci k) = true) : V y pc L (.ref a :: st) h K = (gK h a = ci + 1 ∧ V y (pc + 3) L (.int (gI h a k) :: st) h K) := by
  simp only [Bool.and_eq_true, decide_eq_true_eq, Bool.not_eq_true'] at hc
  refine V_toC hd rfl ?_
  simp only [sxx, hf]
  rw [if_pos hc.1.1]
  simp [hc.1.2, hc.2]
theorem V_getR {i ci k q : Nat} {a : Nat} (hd : decode (bts y) pc = .ok (.getfield i, 3)) (hf : tfind fdT (ow y) i = some (ci, k, q)) (hc : (decide (ci < 7) && decide (k < nfo ci) && isr ci k) = true) : V y pc L (.ref a :: st) h K = (gK h a = ci + 1 ∧ V y (pc + 3) L (va_rf (gR h a k) :: st) h K) := by
  simp only [Bool.and_eq_true, decide_eq_true_eq, Bool.not_eq_true'] at hc
  refine V_toC hd rfl ?_
  simp only [sxx, hf]
  rw [if_pos hc.1.1]
  simp [hc.1.2, hc.2]
theorem V_getS {i k q : Nat} {a : Nat} (hd : decode (bts y) pc = .ok (.getfield i, 3)) (hf : tfind fdT (ow y) i = some (20, k, q)) (hc : decide (k < 2) = true) : V y pc L (.ref a :: st) h K = (stK (gK h a) = true ∧ V y (pc + 3) L ((if k = 0 then va_rf (gR h a 5000) else .int (gI h a 5001)) :: st) h K) := by
  simp only [decide_eq_true_eq] at hc
  refine V_toC hd rfl ?_
  simp only [sxx, hf]
  rw [if_neg (by decide)]
  simp [hc]
def pfO (y ci k : Nat) : Bool := decide (ci < 7) && decide (k < nfo ci) && (!(isf ci k) || (decide ((nmo y).name = "<init>") && decide (ow y = ci)))
theorem pfO_use {ci k : Nat} (h : pfO y ci k = true) : ci < 7 ∧ k < nfo ci ∧ (isf ci k = true → (nmo y).name = "<init>" ∧ ow y = ci) := by
  simp only [pfO, Bool.and_eq_true, decide_eq_true_eq, Bool.or_eq_true, Bool.not_eq_true'] at h
  refine ⟨h.1.1, h.1.2, fun h1 => ?_⟩
  rcases h.2 with h2 | h2
  · rw [h1] at h2; cases h2
  · exact h2
theorem V_putI {i ci k q : Nat} {a : Nat} {x : Int32} (hd : decode (bts y) pc = .ok (.putfield i, 3)) (hf : tfind fdT (ow y) i = some (ci, k, q)) (hp : pfO y ci k = true) (hr : isr ci k = false) (h5 : ci ≠ 5) : V y pc L (.int x :: .ref a :: st) h K = (gK h a = ci + 1 ∧ V y (pc + 3) L st (pI h a k x) K) := by
  obtain ⟨h1, h2, h3⟩ := pfO_use hp
  refine V_toC hd rfl ?_
  simp only [sxx, hf, ptf]
  by_cases hk : gK h a = ci + 1
  · rw [if_pos ⟨h1, hk, h2, h3⟩]
    simp [hr, h5, hk]
  · rw [if_neg (fun z => hk z.2.1)]
    simp [hk]
theorem V_putZ {i k q : Nat} {a : Nat} {x : Int32} (hd : decode (bts y) pc = .ok (.putfield i, 3)) (hf : tfind fdT (ow y) i = some (5, k, q)) (hp : pfO y 5 k = true) (hr : isr 5 k = false) : V y pc L (.int x :: .ref a :: st) h K = ((gK h a = 6 ∧ (x = 0 ∨ x = 1)) ∧ V y (pc + 3) L st (pI h a k x) K) := by
  obtain ⟨h1, h2, h3⟩ := pfO_use hp
  refine V_toC hd rfl ?_
  simp only [sxx, hf, ptf]
  by_cases hk : gK h a = 6
  · rw [if_pos ⟨h1, hk, h2, h3⟩]
    by_cases hx : x = 0 ∨ x = 1
    · simp [hr, hk, hx]
    · simp [hr, hk, hx]
  · rw [if_neg (fun z => hk z.2.1)]
    simp [hk]
theorem V_putR {i ci k q : Nat} {a b : Nat} (hd : decode (bts y) pc = .ok (.putfield i, 3)) (hf : tfind fdT (ow y) i = some (ci, k, q)) (hp : pfO y ci k = true) (hr : isr ci k = true) : V y pc L (.ref b :: .ref a :: st) h K = (gK h a = ci + 1 ∧ V y (pc + 3) L st (pR h a k (some b)) K) := by
  obtain ⟨h1, h2, h3⟩ := pfO_use hp
  refine V_toC hd rfl ?_
  simp only [sxx, hf, ptf]
  by_cases hk : gK h a = ci + 1
  · rw [if_pos ⟨h1, hk, h2, h3⟩]
    simp [hr, hk]
  · rw [if_neg (fun z => hk z.2.1)]
    simp [hk]
theorem V_gst {i j p n : Nat} {w : String × String × String × Bool} (hd : decode (bts y) pc = .ok (.getstatic i, 3)) (hf : tfind scT (ow y) i = some (j, n, p)) (hw : stT[j]? = some w) : V y pc L st h K = V y (pc + 3) L ((if w.2.2.2 = true then va_rf (gR h 0 (100 + j)) else .int (gI h 0 (6000 + j))) :: st) h K := by
  refine V_to hd rfl ?_
  simp only [sxx, hf, hw]
theorem V_iald {j : Int32} {a : Nat} (hd : decode (bts y) pc = .ok (.iaload, 1)) : V y pc L (.int j :: .ref a :: st) h K = (((gK h a = 8 ∨ tbK (gK h a) = true) ∧ inb j (gN h a)) ∧ V y (pc + 1) L (.int (gI h a j.toNatClampNeg) :: st) h K) := V_toC hd rfl rfl
theorem V_lald {j : Int32} {a : Nat} (hd : decode (bts y) pc = .ok (.laload, 1)) : V y pc L (.int j :: .ref a :: st) h K = ((gK h a = 9 ∧ inb j (gN h a)) ∧ V y (pc + 1) L (.long (gJ h a j.toNatClampNeg) :: st) h K) := V_toC hd rfl rfl
theorem V_bald {j : Int32} {a : Nat} (hd : decode (bts y) pc = .ok (.baload, 1)) : V y pc L (.int j :: .ref a :: st) h K = (((gK h a = 10 ∨ btK (gK h a) = true) ∧ inb j (gN h a)) ∧ V y (pc + 1) L (.int (gI h a j.toNatClampNeg) :: st) h K) := V_toC hd rfl rfl
theorem V_aald {j : Int32} {a : Nat} (hd : decode (bts y) pc = .ok (.aaload, 1)) : V y pc L (.int j :: .ref a :: st) h K = (((gK h a = 11 ∨ gK h a = 12 ∨ gK h a = 13) ∧ inb j (gN h a)) ∧ V y (pc + 1) L (va_rf (gR h a j.toNatClampNeg) :: st) h K) := V_toC hd rfl rfl
theorem V_iast {x j : Int32} {a : Nat} (hd : decode (bts y) pc = .ok (.iastore, 1)) : V y pc L (.int x :: .int j :: .ref a :: st) h K = ((gK h a = 8 ∧ inb j (gN h a)) ∧ V y (pc + 1) L st (pI h a j.toNatClampNeg x) K) := V_toC hd rfl rfl
theorem V_last {x : Int64} {j : Int32} {a : Nat} (hd : decode (bts y) pc = .ok (.lastore, 1)) : V y pc L (.long x :: .int j :: .ref a :: st) h K = ((gK h a = 9 ∧ inb j (gN h a)) ∧ V y (pc + 1) L st (pJ h a j.toNatClampNeg x) K) := V_toC hd rfl rfl
theorem V_bast {x j : Int32} {a : Nat} (hd : decode (bts y) pc = .ok (.bastore, 1)) : V y pc L (.int x :: .int j :: .ref a :: st) h K = ((gK h a = 10 ∧ inb j (gN h a) ∧ (x = 0 ∨ x = 1)) ∧ V y (pc + 1) L st (pI h a j.toNatClampNeg x) K) := V_toC hd rfl rfl
theorem V_aast {j : Int32} {a b : Nat} (hd : decode (bts y) pc = .ok (.aastore, 1)) : V y pc L (.ref b :: .int j :: .ref a :: st) h K = ((((gK h a = 11 ∧ gK h b = 2) ∨ (gK h a = 12 ∧ gK h b = 8)) ∧ inb j (gN h a)) ∧ V y (pc + 1) L st (pR h a j.toNatClampNeg (some b)) K) := V_toC hd rfl rfl
theorem V_alen {a : Nat} (hd : decode (bts y) pc = .ok (.arraylength, 1)) : V y pc L (.ref a :: st) h K = (((8 ≤ gK h a ∧ gK h a ≤ 13) ∨ tbK (gK h a) = true ∨ btK (gK h a) = true) ∧ V y (pc + 1) L (.int (Int32.ofNat (gN h a)) :: st) h K) := V_toC hd rfl rfl
theorem V_idiv {a b : Int32} (hd : decode (bts y) pc = .ok (.idiv, 1)) : V y pc L (.int b :: .int a :: st) h K = (b ≠ 0 ∧ V y (pc + 1) L (.int (a / b) :: st) h K) := V_toC hd rfl (by simp [sxx])
theorem V_irem {a b : Int32} (hd : decode (bts y) pc = .ok (.irem, 1)) : V y pc L (.int b :: .int a :: st) h K = (b ≠ 0 ∧ V y (pc + 1) L (.int (a - a / b * b) :: st) h K) := V_toC hd rfl (by simp [sxx])
theorem V_new {i ci q : Nat} (hd : decode (bts y) pc = .ok (.new i, 3)) (hf : tfind csT (ow y) i = some (ci, q)) (hc : ci < 7) : V y pc L st h K = V y (pc + 3) L (.ref (gX h) :: st) (mk1 h (ci + 1) 0 (nfo ci)) K := by
  refine V_to hd rfl ?_
  simp only [sxx, hf]
  rw [if_pos hc]
theorem V_newa {t : ArrayType} {n : Int32} (hd : decode (bts y) pc = .ok (.newarray t, 2)) (ht : kdt t ≠ 0) (h0 : ¬ n < 0) (h1 : n.toNatClampNeg ≤ 1000) : V y pc L (.int n :: st) h K = V y (pc + 2) L (.ref (gX h) :: st) (mk1 h (kdt t) n.toNatClampNeg n.toNatClampNeg) K := by
  refine V_to hd rfl ?_
  simp only [sxx]
  rw [if_pos ⟨h0, h1, ht⟩]
theorem V_anew {i q : Nat} {n : Int32} (hd : decode (bts y) pc = .ok (.anewarray i, 3)) (hf : tfind csT (ow y) i = some (1, q)) (h0 : ¬ n < 0) (h1 : n.toNatClampNeg ≤ 1000) : V y pc L (.int n :: st) h K = V y (pc + 3) L (.ref (gX h) :: st) (mk1 h 11 n.toNatClampNeg n.toNatClampNeg) K := by
  refine V_to hd rfl ?_
  simp only [sxx, hf]
  rw [if_pos ⟨trivial, h0, h1⟩]
theorem V_mna {i ci q : Nat} {n k : Int32} (hd : decode (bts y) pc = .ok (.multianewarray i 2, 4)) (hf : tfind csT (ow y) i = some (ci, q)) (hc : ci = 12 ∨ ci = 13) (h0 : ¬ n < 0) (h1 : ¬ k < 0) (h2 : n.toNatClampNeg ≤ 1000) (h3 : k.toNatClampNeg ≤ 1000) : V y pc L (.int k :: .int n :: st) h K = V y (pc + 4) L (.ref (gX h) :: st) (mk2 h ci (ci - 4) n.toNatClampNeg k.toNatClampNeg) K := by
  refine V_to hd rfl ?_
  simp only [sxx, hf]
  rw [if_pos ⟨trivial, hc, h0, h1, h2, h3⟩]
theorem V_goto {o : Int} {t : Nat} (hd : decode (bts y) pc = .ok (.goto o, 3)) (ht : (pc : Int) + o = (t : Int)) : V y pc L st h K = V y t L st h K := by
  refine V_to hd rfl ?_
  simp only [sxx]
  rw [if_pos (by omega)]
  unfold tgp
  rw [ht]
  rfl
theorem V_icmp {c : Jvm.ClassFile.Cond} {o : Int} {t : Nat} {a b : Int32} (hd : decode (bts y) pc = .ok (.if_icmp c o, 3)) (ht : (pc : Int) + o = (t : Int)) : V y pc L (.int b :: .int a :: st) h K = if cjp c a b = true then V y t L st h K else V y (pc + 3) L st h K := by
  refine V_toB hd rfl ?_
  simp only [sxx]
  rw [if_pos (by omega)]
  unfold tgp
  rw [ht]
  rfl
theorem V_ific {c : Jvm.ClassFile.Cond} {o : Int} {t : Nat} {a : Int32} (hd : decode (bts y) pc = .ok (.ifCond c o, 3)) (ht : (pc : Int) + o = (t : Int)) : V y pc L (.int a :: st) h K = if cjp c a 0 = true then V y t L st h K else V y (pc + 3) L st h K := by
  refine V_toB hd rfl ?_
  simp only [sxx]
  rw [if_pos (by omega)]
  unfold tgp
  rw [ht]
  rfl
theorem V_ifnn {o : Int} {t : Nat} {w : Option Nat} (hd : decode (bts y) pc = .ok (.ifnonnull o, 3)) (ht : (pc : Int) + o = (t : Int)) : V y pc L (va_rf w :: st) h K = if w = none then V y (pc + 3) L st h K else V y t L st h K := by
  cases w with
  | none =>
    rw [if_pos rfl]
    exact V_to hd rfl rfl
  | some a =>
    rw [if_neg (by simp)]
    refine V_to hd rfl ?_
    show sxx y pc (.ifnonnull o) L (.ref a :: st) h = _
    simp only [sxx]
    rw [if_pos (by omega)]
    unfold tgp
    rw [ht]
    rfl
theorem V_tswI {d lo hi o : Int} {offs : Array Int} {len t : Nat} {x : Int32} (hd : decode (bts y) pc = .ok (.tableswitch d lo hi offs, len)) (hx : ¬ (x.toInt < lo ∨ hi < x.toInt)) (ho : offs[(x.toInt - lo).toNat]? = some o) (ht : (pc : Int) + o = (t : Int)) : V y pc L (.int x :: st) h K = V y t L st h K := by
  refine V_to hd rfl ?_
  simp only [sxx]
  rw [if_neg hx, ho]
  dsimp only
  rw [if_pos (by omega)]
  unfold tgp
  rw [ht]
  rfl
theorem V_tswD {d lo hi : Int} {offs : Array Int} {len t : Nat} {x : Int32} (hd : decode (bts y) pc = .ok (.tableswitch d lo hi offs, len)) (hx : x.toInt < lo ∨ hi < x.toInt) (ht : (pc : Int) + d = (t : Int)) : V y pc L (.int x :: st) h K = V y t L st h K := by
  refine V_to hd rfl ?_
  simp only [sxx]
  rw [if_pos hx]
  rw [if_pos (by omega)]
  unfold tgp
  rw [ht]
  rfl
def bo (v : Int32) : Prop := narrow .boolean (.int v) = .int v
theorem V_iret {v : Int32} (hd : decode (bts y) pc = .ok (.ireturn, 1)) (hr : rty y = some .int) : V y pc L [.int v] h K = K (some (.int v)) h := by
  refine V_done ((act_of hd rfl).trans ?_)
  simp only [sxx, hr]
  rw [if_pos ⟨Or.inl trivial, rfl⟩]
  rfl
theorem V_zret {v : Int32} {t : FieldType} (hd : decode (bts y) pc = .ok (.ireturn, 1)) (hr : rty y = some t) (ht : t = .int ∨ t = .boolean ∨ t = .byte ∨ t = .char) : V y pc L [.int v] h K = (narrow t (.int v) = .int v ∧ K (some (.int v)) h) := by
  by_cases hc : narrow t (.int v) = .int v
  · rw [V_done (r := some (.int v)) ((act_of hd rfl).trans (by simp only [sxx, hr]; rw [if_pos ⟨ht, hc⟩]; rfl))]
    simp [hc]
  · rw [V_dead ((act_of hd rfl).trans (by simp only [sxx, hr]; rw [if_neg (fun z => hc z.2)]))]
    simp [hc]
theorem V_lret {v : Int64} (hd : decode (bts y) pc = .ok (.lreturn, 1)) (hr : rty y = some .long) : V y pc L [.long v] h K = K (some (.long v)) h := by
  refine V_done ((act_of hd rfl).trans ?_)
  simp only [sxx, hr]
  rfl
theorem V_aret {v : Nat} {n : String} (hd : decode (bts y) pc = .ok (.areturn, 1)) (hr : rty y = some (.object n)) : V y pc L [.ref v] h K = K (some (.ref v)) h := by
  refine V_done ((act_of hd rfl).trans ?_)
  simp only [sxx, hr]
  rfl
theorem V_vret (hd : decode (bts y) pc = .ok (.return_, 1)) (hr : rty y = none) : V y pc L [] h K = K none h := by
  refine V_done ((act_of hd rfl).trans ?_)
  simp only [sxx, hr]
  rfl
theorem acl_s {q : Nat × Nat × Nat × Nat} {sp : Bool} {pc : Nat} (h1 : q.1 = 1 ∨ q.1 = 4) (hr : rmo y q.2.1 = true) (hl : q.2.2.1 ≤ st.length) (hc : cats (st.drop q.2.2.1) ≤ 8) (hg : ago q.2.1 (st.take q.2.2.1).reverse = true) : acl y q sp true L st h pc = aC q.2.1 (st.take q.2.2.1).reverse (st.drop q.2.2.1) := by
  unfold acl
  rw [if_neg (by omega), if_neg (by omega), if_neg (by omega), if_neg (by omega), if_pos hr, if_pos ⟨h1, rfl⟩, if_pos ⟨hl, hc⟩]
  unfold aC2
  rw [if_pos hg]
theorem V_calS {i z na q : Nat} {k : Nat} {as st' : List Value} (hd : decode (bts y) pc = .ok (.invokestatic i, 3)) (hf : tfind clT (ow y) i = some (k, z, na, q)) (h1 : k = 1 ∨ k = 4) (hr : rmo y z = true) (has : as.length = na) (hg : ago z as = true) (hc : cats st' ≤ 8) : V y pc L (as.reverse ++ st') h K = AM z as h (fun r h1 => V y (pc + 3) L (pu r st') h1 K) := by
  have e1 : (as.reverse ++ st').drop na = st' := by rw [← has, ← List.length_reverse, List.drop_left]
  have e2 : ((as.reverse ++ st').take na).reverse = as := by rw [← has, ← List.length_reverse, List.take_left, List.reverse_reverse]
  refine V_call ((act_of hd rfl).trans ?_)
  simp only [sxx, hf]
  rw [acl_s (q := (k, z, na, q)) h1 hr (by simp [has]) (by dsimp only; rw [e1]; exact hc) (by dsimp only; rw [e2]; exact hg)]
  dsimp only
  rw [e1, e2]
  rfl
theorem V_calV {i z na q : Nat} {k a : Nat} {as st' : List Value} {ins : Instr} (sp : Bool) (hd : decode (bts y) pc = .ok (ins, 3)) (hi : (ins = .invokevirtual i ∧ sp = false ∧ k = 0) ∨ (ins = .invokespecial i ∧ sp = true ∧ (k = 2 ∨ k = 5))) (hf : tfind clT (ow y) i = some (k, z, na, q)) (hr : rmo y z = true) (has : as.length = na) (hg : ago z (.ref a :: as) = true) (hc : cats st' ≤ 8) : V y pc L (as.reverse ++ .ref a :: st') h K = (rcK z (gK h a) = true ∧ AM z (.ref a :: as) h (fun r h1 => V y (pc + 3) L (pu r st') h1 K)) := by
  have e1 : (as.reverse ++ .ref a :: st').drop na = .ref a :: st' := by rw [← has, ← List.length_reverse, List.drop_left]
  have e2 : ((as.reverse ++ .ref a :: st').take na).reverse = as := by rw [← has, ← List.length_reverse, List.take_left, List.reverse_reverse]
  have hk : ((k = 0 ∧ sp = false) ∨ ((k = 2 ∨ k = 5) ∧ sp = true)) := by
    rcases hi with hi | hi
    · exact Or.inl ⟨hi.2.2, hi.2.1⟩
    · exact Or.inr ⟨hi.2.2, hi.2.1⟩
  have key : sxx y pc ins L (as.reverse ++ .ref a :: st') h = if rcK z (gK h a) = true then aC z (.ref a :: as) st' else none := by
    have e0 : sxx y pc ins L (as.reverse ++ .ref a :: st') h = acl y (k, z, na, q) sp false L (as.reverse ++ .ref a :: st') h pc := by
      rcases hi with ⟨rfl, rfl, -⟩ | ⟨rfl, rfl, -⟩ <;> simp only [sxx, hf]
    rw [e0]
    unfold acl
    have k1 : ¬ k = 1 ∧ ¬ k = 4 ∧ ¬ k = 6 ∧ ¬ k = 7 ∧ ¬ k = 8 ∧ ¬ k = 9 := by omega
    dsimp only
    rw [if_neg k1.2.2.1, if_neg k1.2.2.2.1, if_neg k1.2.2.2.2.1, if_neg k1.2.2.2.2.2, if_pos hr, if_neg (by intro z; rcases z.1 with z | z; exact k1.1 z; exact k1.2.1 z), if_pos ⟨hk, rfl⟩, e1]
    dsimp only
    by_cases hrc : rcK z (gK h a) = true
    · rw [if_pos ⟨by simp [has], hc, hrc⟩, if_pos hrc, e2]
      unfold aC2
      rw [if_pos hg]
    · rw [if_neg (fun z => hrc z.2.2), if_neg hrc]
  have hl : lnB ins 3 = true := by rcases hi with ⟨rfl, -⟩ | ⟨rfl, -⟩ <;> rfl
  by_cases hrc : rcK z (gK h a) = true
  · rw [if_pos hrc] at key
    rw [V_call ((act_of hd hl).trans key)]
    simp [hrc]
  · rw [if_neg hrc] at key
    rw [V_dead ((act_of hd hl).trans key)]
    simp [hrc]
theorem V_obj {i z na q : Nat} {a : Nat} (hd : decode (bts y) pc = .ok (.invokespecial i, 3)) (hf : tfind clT (ow y) i = some (6, z, na, q)) (hr : 1 ≤ frm y ∧ 20 ≤ lom y) (hc : cats st ≤ 8) : V y pc L (.ref a :: st) h K = V y (pc + 3) L st h K := by
  refine V_to hd rfl ?_
  simp only [sxx, hf]
  unfold acl
  rw [if_pos (show (6, z, na, q).1 = 6 from rfl), if_pos ⟨rfl, hr.1, hr.2, rfl⟩]
  dsimp only
  rw [if_pos hc]
theorem V_max {i z na q : Nat} {a b : Int32} (hd : decode (bts y) pc = .ok (.invokestatic i, 3)) (hf : tfind clT (ow y) i = some (8, z, na, q)) (hr : 1 ≤ frm y ∧ 40 ≤ lom y) (hc : cats st ≤ 8) : V y pc L (.int b :: .int a :: st) h K = V y (pc + 3) L (.int (if a < b then b else a) :: st) h K := by
  refine V_to hd rfl ?_
  simp only [sxx, hf]
  unfold acl
  rw [if_neg (show ¬ (8, z, na, q).1 = 6 from fun z => by simp at z), if_neg (show ¬ (8, z, na, q).1 = 7 from fun z => by simp at z), if_pos (show (8, z, na, q).1 = 8 from rfl), if_pos ⟨rfl, hr.1, hr.2⟩]
  dsimp only
  rw [if_pos hc]
theorem V_min {i z na q : Nat} {a b : Int32} (hd : decode (bts y) pc = .ok (.invokestatic i, 3)) (hf : tfind clT (ow y) i = some (9, z, na, q)) (hr : 1 ≤ frm y ∧ 40 ≤ lom y) (hc : cats st ≤ 8) : V y pc L (.int b :: .int a :: st) h K = V y (pc + 3) L (.int (if b < a then b else a) :: st) h K := by
  refine V_to hd rfl ?_
  simp only [sxx, hf]
  unfold acl
  rw [if_neg (show ¬ (9, z, na, q).1 = 6 from fun z => by simp at z), if_neg (show ¬ (9, z, na, q).1 = 7 from fun z => by simp at z), if_neg (show ¬ (9, z, na, q).1 = 8 from fun z => by simp at z), if_pos (show (9, z, na, q).1 = 9 from rfl), if_pos ⟨rfl, hr.1, hr.2⟩]
  dsimp only
  rw [if_pos hc]
def cpA (h : Hp) (a c : Nat) (sp dp n : Int32) : Prop := ¬ sp < 0 ∧ ¬ dp < 0 ∧ ¬ n < 0 ∧ sp.toNatClampNeg + n.toNatClampNeg ≤ gN h a ∧ dp.toNatClampNeg + n.toNatClampNeg ≤ gN h c
theorem V_cpI {i z na q : Nat} {a c : Nat} {sp dp n : Int32} (hd : decode (bts y) pc = .ok (.invokestatic i, 3)) (hf : tfind clT (ow y) i = some (7, z, na, q)) (hr : 1 ≤ frm y ∧ 40 ≤ lom y) (hc : cats st ≤ 8) (ha : gK h a = 8) (hk : gK h c = 8) (hp : cpA h a c sp dp n) : V y pc L (.int n :: .int dp :: .ref c :: .int sp :: .ref a :: st) h K = V y (pc + 3) L st (cpI h a sp.toNatClampNeg c dp.toNatClampNeg n.toNatClampNeg) K := by
  obtain ⟨p1, p2, p3, p4, p5⟩ := hp
  refine V_to hd rfl ?_
  simp only [sxx, hf]
  unfold acl
  rw [if_neg (show ¬ (7, z, na, q).1 = 6 from fun z => by simp at z), if_pos (show (7, z, na, q).1 = 7 from rfl), if_pos ⟨rfl, hr.1, hr.2⟩]
  dsimp only
  rw [if_pos ⟨p1, p2, p3, p4, p5, hc, ha.trans hk.symm, Or.inl hk⟩, if_pos hk]
theorem V_cpJ {i z na q : Nat} {a c : Nat} {sp dp n : Int32} (hd : decode (bts y) pc = .ok (.invokestatic i, 3)) (hf : tfind clT (ow y) i = some (7, z, na, q)) (hr : 1 ≤ frm y ∧ 40 ≤ lom y) (hc : cats st ≤ 8) (ha : gK h a = 9) (hk : gK h c = 9) (hp : cpA h a c sp dp n) : V y pc L (.int n :: .int dp :: .ref c :: .int sp :: .ref a :: st) h K = V y (pc + 3) L st (cpJ h a sp.toNatClampNeg c dp.toNatClampNeg n.toNatClampNeg) K := by
  obtain ⟨p1, p2, p3, p4, p5⟩ := hp
  refine V_to hd rfl ?_
  simp only [sxx, hf]
  unfold acl
  rw [if_neg (show ¬ (7, z, na, q).1 = 6 from fun z => by simp at z), if_pos (show (7, z, na, q).1 = 7 from rfl), if_pos ⟨rfl, hr.1, hr.2⟩]
  dsimp only
  rw [if_pos ⟨p1, p2, p3, p4, p5, hc, ha.trans hk.symm, Or.inr hk⟩, if_neg (by omega)]
end
