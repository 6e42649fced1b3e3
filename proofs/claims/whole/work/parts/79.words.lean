/-! THE TAPE'S WORDS: texts, tokens, isWord on both sides -/
def TXT (a : Nat) (w : List Nat) (h : Hp) : Prop := stK (gK h a) = true ∧ gI h a 5001 = 0 ∧ gI h 0 6009 = 1 ∧ ∃ v, gR h a 5000 = some v ∧ btK (gK h v) = true ∧ gN h v = w.length ∧ ∀ i, i < w.length → gI h v i = nI (w.getD i 0)
theorem CN.tx {b : Nat} {h : Hp} (hC : CN b h) {q : TbK × String × Nat} (hq : q ∈ srT) {w : List Nat} (hw : strB q = w.map nI) : ∃ a, gR h 0 (200 + q.2.2) = some a ∧ TXT a w h := by
  obtain ⟨-, -, h9, h3⟩ := hC
  obtain ⟨a, v, -, -, e3, e4, e5, e6, e7, e8, e9⟩ := h3 q hq
  rw [hw] at e8 e9
  refine ⟨a, e3, e4, e5, h9, v, e6, e7, e8.trans (List.length_map _), fun i hi => ?_⟩
  rw [e9 i (by rw [List.length_map]; exact hi)]
  rw [List.getD_eq_getElem?_getD, List.getD_eq_getElem?_getD, List.getElem?_map]
  cases w[i]? with
  | none => rfl
  | some x => rfl
theorem ch128 : ∀ c : Fin 128, ((nI c.val &&& 255).toUInt32 % 65536).toInt32 = nI c.val := by decide
theorem nch : ∀ c : Fin 128, narrow FieldType.char (Value.int (nI c.val)) = Value.int (nI c.val) := by
  intro c
  refine congrArg Value.int ?_
  revert c
  decide
theorem nby : narrow FieldType.byte (Value.int 0) = Value.int 0 := rfl
theorem sh0 (x : Int32) : x >>> ((0 : Int32) &&& 31) = x := by
  rw [show ((0 : Int32) &&& 31) = 0 from by decide]
  exact Int32.shiftRight_zero
section
variable {a i : Nat} {w : List Nat} {h : Hp} {K : Option Value → Hp → Prop}
theorem c240 (hT : TXT a w h) : AM 240 [.ref a] h K = K (some (.int (nI w.length))) h := by
  obtain ⟨t1, t2, t3, v, t4, t5, t6, t7⟩ := hT
  have o10 : ((1 : Int32) = 0) = False := i10
  simp only [e240, v240_0, v240_1, v240_4, v240_5, v240_6, e242, v242_0, v242_3, v242_6, v242_7, v242_10, v242_14, v240_9, v240_10, t1, t2, t3, t4, t5, t6, vrf_s, o10, reduceIte, pu_s, true_and, or_true, sh0, nby]
  rfl
theorem c241 (hT : TXT a w h) (hi : i < w.length) (hw : w.length ≤ 100) (h8 : ∀ x ∈ w, x < 128) : AM 241 [.ref a, .int (nI i)] h K = K (some (.int (nI (w.getD i 0)))) h := by
  obtain ⟨t1, t2, t3, v, t4, t5, t6, t7⟩ := hT
  have o10 : ((1 : Int32) = 0) = False := i10
  have c1 : (nI i).toNatClampNeg = i := nIc (by omega)
  have i1 : inb (nI i) w.length = True := nIb hi (by omega)
  have l0 : (nI i < 0) = False := eq_false (Int32.not_lt.mpr (nI_pos' (by omega)))
  have l1 : (nI i < Int32.ofNat w.length) = True := eq_true (nI_lt hi (by omega))
  have hc : w.getD i 0 < 128 := by
    rw [List.getD_eq_getElem?_getD, List.getElem?_eq_getElem hi]
    exact h8 _ (List.getElem_mem hi)
  have e := ch128 ⟨w.getD i 0, hc⟩
  have e2 := nch ⟨w.getD i 0, hc⟩
  have ee := t7 i hi
  simp only [e241, v241_0, v241_1, e243, v243_0, v243_3, v243_6, v243_7, v243_10, v243_13, v243_14, v243_18, v241_4, v241_7, v241_8, v241_11, v241_12, e245, v245_0, v245_1, v245_2, v245_3, e244, v244_0, v244_1, v244_2, v244_5, e250, v250_0, v250_1, v250_4, v250_5, v250_6, v250_16, v250_17, v244_8, v244_9, v245_6, v245_7, v245_8, v245_9, v245_12, v245_13, v245_14, v241_15, bo_1, t1, t2, t3, t4, t5, t6, ee, vrf_s, o10, l0, l1, c1, i1, not_true_eq_false, not_false_eq_true, reduceIte, pu_s, pu_n, true_and, or_true, true_or, and_self, e, e2]
end
abbrev TKN : Type := Nat × Nat × Nat × Nat
abbrev TPE : Type := Nat × (Nat → Nat)
def kT (T : TKN) : Nat := T.1
def sT0 (T : TKN) : Nat := T.2.1
def eT (T : TKN) : Nat := T.2.2.1
def vT (T : TKN) : Nat := T.2.2.2
/-- a token stands well on the tape -/
def TOk (p : TPE) (T : TKN) : Prop := kT T ≤ 4 ∧ sT0 T ≤ eT T ∧ eT T ≤ p.1 ∧ vT T ≤ 99 ∧ (kT T ≠ 0 → sT0 T < eT T)
def isW (p : TPE) (T : TKN) (w : List Nat) : Bool := decide (kT T = 1 ∧ eT T - sT0 T = w.length ∧ ∀ i, i < w.length → p.2 (sT0 T + i) = w.getD i 0)
theorem isW_ne {p : TPE} {T : TKN} {w w' : List Nat} (h : isW p T w = true) (hn : w ≠ w') : isW p T w' = false := by
  cases h2 : isW p T w' with
  | false => rfl
  | true =>
    obtain ⟨-, a1, a2⟩ := of_decide_eq_true h
    obtain ⟨-, b1, b2⟩ := of_decide_eq_true h2
    refine absurd (List.ext_getElem (a1.symm.trans b1) (fun i h1 h2 => ?_)) hn
    have x := a2 i h1
    have y := b2 i h2
    rw [List.getD_eq_getElem?_getD, List.getElem?_eq_getElem h1] at x
    rw [List.getD_eq_getElem?_getD, List.getElem?_eq_getElem h2] at y
    exact x.symm.trans y
def CT (b : Nat) (p : TPE) (T : TKN) (h : Hp) : Prop := TA b p h ∧ gI h (b + 117) 2 = nI (kT T) ∧ gI h (b + 117) 3 = nI (sT0 T) ∧ gI h (b + 117) 4 = nI (eT T) ∧ gI h (b + 117) 5 = nI (vT T)
def vR (T : TKN) : Nat := if kT T = 2 ∧ 2 < eT T - sT0 T then 100000 else vT T
def MT (m : Nat) (p : TPE) (T : TKN) (h : Hp) : Prop := MTA m p h ∧ gI h m 21 = nI (kT T) ∧ gI h m 22 = nI (sT0 T) ∧ gI h m 20 = nI (eT T) ∧ gI h m 23 = nI (vR T)
section
variable {b m a : Nat} {p : TPE} {T : TKN} {w : List Nat} {h : Hp} {K : Option Value → Hp → Prop}
/-- the class's isWord -/
theorem c39 (hT : CT b p T h) (ok : TOk p T) (hp : p.1 ≤ 250) (hb : ∀ j, j < p.1 → p.2 j ≤ 255) (hX : TXT a w h) (hw : w.length ≤ 100) (h8 : ∀ x ∈ w, x < 128) : AM 39 [.ref (b + 117), .ref a] h K = K (some (.int (z2 (isW p T w)))) h := by
  obtain ⟨⟨t1, t2, t3, t4, t5, t6, t7, t8, t9⟩, u1, u2, u3, u4⟩ := hT
  obtain ⟨o1, o2, o3, o4, o5⟩ := ok
  have ka := hX.1
  have e1 : (nI (kT T) = 1) = (kT T = 1) := neqN (c := 1) (by omega) (by decide)
  by_cases g1 : kT T = 1
  · have g1' : (kT T = 1) = True := eq_true g1
    have e2 : nI (eT T) - nI (sT0 T) = nI (eT T - sT0 T) := nI_subN o2
    have e3 : (nI (eT T - sT0 T) = nI w.length) = (eT T - sT0 T = w.length) := neqN (by omega) (by omega)
    by_cases g2 : eT T - sT0 T = w.length
    · have g2' : (eT T - sT0 T = w.length) = True := eq_true g2
      have l : ∀ (d i : Nat), i + d = w.length → (∀ j, j < i → p.2 (sT0 T + j) = w.getD j 0) → V 39 28 [.ref (b + 117), .ref a, .int (nI i)] [] h K = K (some (.int (z2 (isW p T w)))) h := by
        intro d
        induction d with
        | zero =>
          intro i hi hz
          have e : i = w.length := by omega
          have e8 : (nI w.length ≤ nI i) = True := eq_true (nI_le (by omega) (by omega))
          have hW : isW p T w = true := decide_eq_true ⟨g1, g2, fun j hj => hz j (by omega)⟩
          simp only [v39_28, v39_29, v39_30, v39_33, v39_76, v39_77, c240 hX, ka, pu_s, true_and, e8, reduceIte, hW, bo_1]
          rfl
        | succ d ih =>
          intro i hi hz
          have e8 : (nI w.length ≤ nI i) = False := eq_false (nI_ge (by omega) (by omega))
          have e9 : (nI p.1 ≤ nI (sT0 T + i)) = False := eq_false (nI_ge (by omega) (by omega))
          have c1 : (nI (sT0 T + i)).toNatClampNeg = sT0 T + i := nIc (by omega)
          have i1 : inb (nI (sT0 T + i)) 250 = True := nIb (by omega) (by omega)
          have ev := t9 (sT0 T + i) (by omega)
          have hb1 := hb (sT0 T + i) (by omega)
          have hc : w.getD i 0 < 128 := by
            rw [List.getD_eq_getElem?_getD, List.getElem?_eq_getElem (by omega)]
            exact h8 _ (List.getElem_mem _)
          have eq : (nI (p.2 (sT0 T + i)) = nI (w.getD i 0)) = (p.2 (sT0 T + i) = w.getD i 0) := neqN (by omega) (by omega)
          by_cases g : p.2 (sT0 T + i) = w.getD i 0
          · have g' : (p.2 (sT0 T + i) = w.getD i 0) = True := eq_true g
            simp only [v39_28, v39_29, v39_30, v39_33, v39_36, v39_37, v39_40, v39_41, v39_42, v39_43, v39_46, v39_49, v39_50, v39_53, v39_54, v39_57, v39_58, v39_59, v39_60, v39_61, v39_62, v39_65, v39_70, c240 hX, c241 hX (show i < w.length by omega) hw h8, ka, pu_s, true_and, e8, e9, t1, t2, t4, t5, t8, u2, nI_add, c1, i1, ev, eq, g', vrf_s, true_or, or_true, and_self, reduceIte, nI_1]
            rw [v39_73]
            refine ih (i + 1) (by omega) (fun j hj => ?_)
            by_cases e : j = i
            · subst e; exact g
            · exact hz j (by omega)
          · have hW : isW p T w = false := decide_eq_false (fun z => g (z.2.2 i (by omega)))
            simp only [v39_28, v39_29, v39_30, v39_33, v39_36, v39_37, v39_40, v39_41, v39_42, v39_43, v39_46, v39_49, v39_50, v39_53, v39_54, v39_57, v39_58, v39_59, v39_60, v39_61, v39_62, v39_65, v39_68, v39_69, c240 hX, c241 hX (show i < w.length by omega) hw h8, ka, pu_s, true_and, e8, e9, t1, t2, t4, t5, t8, u2, nI_add, c1, i1, ev, eq, g, vrf_s, true_or, or_true, and_self, reduceIte, bo_0, hW]
            rfl
      simp only [e39, v39_0, v39_1, v39_4, v39_5, v39_8, v39_9, v39_12, v39_13, v39_16, v39_17, v39_18, v39_21, v39_26, v39_27, t1, u1, u2, u3, e1, g1', e2, e3, g2', c240 hX, ka, pu_s, true_and, not_true_eq_false, reduceIte]
      exact l w.length 0 (Nat.zero_add _) (fun j hj => absurd hj (Nat.not_lt_zero j))
    · have hW : isW p T w = false := decide_eq_false (fun z => g2 z.2.1)
      simp only [e39, v39_0, v39_1, v39_4, v39_5, v39_8, v39_9, v39_12, v39_13, v39_16, v39_17, v39_18, v39_21, v39_24, v39_25, t1, u1, u2, u3, e1, g1', e2, e3, g2, c240 hX, ka, pu_s, true_and, not_true_eq_false, reduceIte, bo_0, hW]
      rfl
  · have hW : isW p T w = false := decide_eq_false (fun z => g1 z.1)
    simp only [e39, v39_0, v39_1, v39_4, v39_5, v39_24, v39_25, t1, u1, e1, g1, true_and, not_false_eq_true, reduceIte, bo_0, hW]
    rfl
/-- the reference's isWord -/
theorem c165 (hM : MSh m h) (hT : MT m p T h) (ok : TOk p T) (hp : p.1 ≤ 250) (hb : ∀ j, j < p.1 → p.2 j ≤ 255) (hX : TXT a w h) (hw : w.length ≤ 100) (h8 : ∀ x ∈ w, x < 128) : AM 165 [.ref m, .ref a] h K = K (some (.int (z2 (isW p T w)))) h := by
  obtain ⟨⟨t8, t9⟩, u1, u2, u3, u4⟩ := hT
  obtain ⟨o1, o2, o3, o4, o5⟩ := ok
  have ka := hX.1
  have e1 : (nI (kT T) = 1) = (kT T = 1) := neqN (c := 1) (by omega) (by decide)
  by_cases g1 : kT T = 1
  · have g1' : (kT T = 1) = True := eq_true g1
    have e2 : nI (eT T) - nI (sT0 T) = nI (eT T - sT0 T) := nI_subN o2
    have e3 : (nI (eT T - sT0 T) = nI w.length) = (eT T - sT0 T = w.length) := neqN (by omega) (by omega)
    by_cases g2 : eT T - sT0 T = w.length
    · have g2' : (eT T - sT0 T = w.length) = True := eq_true g2
      have l : ∀ (d i : Nat), i + d = w.length → (∀ j, j < i → p.2 (sT0 T + j) = w.getD j 0) → V 165 28 [.ref m, .ref a, .int (nI i)] [] h K = K (some (.int (z2 (isW p T w)))) h := by
        intro d
        induction d with
        | zero =>
          intro i hi hz
          have e : i = w.length := by omega
          have e8 : (nI w.length ≤ nI i) = True := eq_true (nI_le (by omega) (by omega))
          have hW : isW p T w = true := decide_eq_true ⟨g1, g2, fun j hj => hz j (by omega)⟩
          simp only [v165_28, v165_29, v165_30, v165_33, v165_63, v165_64, c240 hX, ka, pu_s, true_and, e8, reduceIte, hW, bo_1]
          rfl
        | succ d ih =>
          intro i hi hz
          have e8 : (nI w.length ≤ nI i) = False := eq_false (nI_ge (by omega) (by omega))
          have c1 : (nI (sT0 T + i)).toNatClampNeg = sT0 T + i := nIc (by omega)
          have i1 : inb (nI (sT0 T + i)) 250 = True := nIb (by omega) (by omega)
          have ev := t9 (sT0 T + i) (by omega)
          have hb1 := hb (sT0 T + i) (by omega)
          have hc : w.getD i 0 < 128 := by
            rw [List.getD_eq_getElem?_getD, List.getElem?_eq_getElem (by omega)]
            exact h8 _ (List.getElem_mem _)
          have eq : (nI (p.2 (sT0 T + i)) = nI (w.getD i 0)) = (p.2 (sT0 T + i) = w.getD i 0) := neqN (by omega) (by omega)
          by_cases g : p.2 (sT0 T + i) = w.getD i 0
          · have g' : (p.2 (sT0 T + i) = w.getD i 0) = True := eq_true g
            simp only [v165_28, v165_29, v165_30, v165_33, v165_36, v165_37, v165_40, v165_41, v165_44, v165_45, v165_46, v165_47, v165_48, v165_49, v165_52, v165_57, c240 hX, c241 hX (show i < w.length by omega) hw h8, ka, pu_s, true_and, e8, hM.k0, hM.f6, hM.k15, hM.n15, u2, nI_add, c1, i1, ev, eq, g', vrf_s, true_or, or_true, and_self, reduceIte, nI_1]
            rw [v165_60]
            refine ih (i + 1) (by omega) (fun j hj => ?_)
            by_cases e : j = i
            · subst e; exact g
            · exact hz j (by omega)
          · have hW : isW p T w = false := decide_eq_false (fun z => g (z.2.2 i (by omega)))
            simp only [v165_28, v165_29, v165_30, v165_33, v165_36, v165_37, v165_40, v165_41, v165_44, v165_45, v165_46, v165_47, v165_48, v165_49, v165_52, v165_55, v165_56, c240 hX, c241 hX (show i < w.length by omega) hw h8, ka, pu_s, true_and, e8, hM.k0, hM.f6, hM.k15, hM.n15, u2, nI_add, c1, i1, ev, eq, g, vrf_s, true_or, or_true, and_self, reduceIte, bo_0, hW]
            rfl
      simp only [e165, v165_0, v165_1, v165_4, v165_5, v165_8, v165_9, v165_12, v165_13, v165_16, v165_17, v165_18, v165_21, v165_26, v165_27, hM.k0, u1, u2, u3, e1, g1', e2, e3, g2', c240 hX, ka, pu_s, true_and, not_true_eq_false, reduceIte]
      exact l w.length 0 (Nat.zero_add _) (fun j hj => absurd hj (Nat.not_lt_zero j))
    · have hW : isW p T w = false := decide_eq_false (fun z => g2 z.2.1)
      simp only [e165, v165_0, v165_1, v165_4, v165_5, v165_8, v165_9, v165_12, v165_13, v165_16, v165_17, v165_18, v165_21, v165_24, v165_25, hM.k0, u1, u2, u3, e1, g1', e2, e3, g2, c240 hX, ka, pu_s, true_and, not_true_eq_false, reduceIte, bo_0, hW]
      rfl
  · have hW : isW p T w = false := decide_eq_false (fun z => g1 z.1)
    simp only [e165, v165_0, v165_1, v165_4, v165_5, v165_24, v165_25, hM.k0, u1, e1, g1, true_and, not_false_eq_true, reduceIte, bo_0, hW]
    rfl
end
