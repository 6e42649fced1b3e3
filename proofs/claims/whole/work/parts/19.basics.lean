/-! basics for the walks: what setters leave, small booleans, the frame of a piece of code, the constants -/
section
variable (h : Hp) (a k b j : Nat) (v : Int32) (w : Int64) (r : Option Nat) (sp c dp n K N n2 : Nat)
theorem gI_pI : gI (pI h a k v) b j = if b = a ∧ j = k then v else gI h b j := rfl
theorem gI_pJ : gI (pJ h a k w) = gI h := rfl
theorem gI_pR : gI (pR h a k r) = gI h := rfl
theorem gJ_pI : gJ (pI h a k v) = gJ h := rfl
theorem gJ_pJ : gJ (pJ h a k w) b j = if b = a ∧ j = k then w else gJ h b j := rfl
theorem gJ_pR : gJ (pR h a k r) = gJ h := rfl
theorem gR_pI : gR (pI h a k v) = gR h := rfl
theorem gR_pJ : gR (pJ h a k w) = gR h := rfl
theorem gR_pR : gR (pR h a k r) b j = if b = a ∧ j = k then r else gR h b j := rfl
theorem gK_pI : gK (pI h a k v) = gK h := rfl
theorem gK_pJ : gK (pJ h a k w) = gK h := rfl
theorem gK_pR : gK (pR h a k r) = gK h := rfl
theorem gN_pI : gN (pI h a k v) = gN h := rfl
theorem gN_pJ : gN (pJ h a k w) = gN h := rfl
theorem gN_pR : gN (pR h a k r) = gN h := rfl
theorem gI_cpI : gI (cpI h a sp c dp n) b j = if b = c ∧ dp ≤ j ∧ j < dp + n then gI h a (sp + (j - dp)) else gI h b j := rfl
theorem gI_cpJ : gI (cpJ h a sp c dp n) = gI h := rfl
theorem gJ_cpI : gJ (cpI h a sp c dp n) = gJ h := rfl
theorem gJ_cpJ : gJ (cpJ h a sp c dp n) b j = if b = c ∧ dp ≤ j ∧ j < dp + n then gJ h a (sp + (j - dp)) else gJ h b j := rfl
theorem gR_cpI : gR (cpI h a sp c dp n) = gR h := rfl
theorem gR_cpJ : gR (cpJ h a sp c dp n) = gR h := rfl
theorem gK_cpI : gK (cpI h a sp c dp n) = gK h := rfl
theorem gK_cpJ : gK (cpJ h a sp c dp n) = gK h := rfl
theorem gN_cpI : gN (cpI h a sp c dp n) = gN h := rfl
theorem gN_cpJ : gN (cpJ h a sp c dp n) = gN h := rfl
theorem gI_at : gI (pI h a k v) a k = v := if_pos ⟨rfl, rfl⟩
theorem gJ_at : gJ (pJ h a k w) a k = w := if_pos ⟨rfl, rfl⟩
theorem gR_at : gR (pR h a k r) a k = r := if_pos ⟨rfl, rfl⟩
end
section
variable {h : Hp} {a k b j : Nat} {v : Int32} {w : Int64} {r : Option Nat}
theorem gI_ne (hn : ¬ (b = a ∧ j = k)) : gI (pI h a k v) b j = gI h b j := if_neg hn
theorem gJ_ne (hn : ¬ (b = a ∧ j = k)) : gJ (pJ h a k w) b j = gJ h b j := if_neg hn
theorem gR_ne (hn : ¬ (b = a ∧ j = k)) : gR (pR h a k r) b j = gR h b j := if_neg hn
end
def z2 (b : Bool) : Int32 := if b = true then 1 else 0
theorem bo_0 : bo 0 = True := eq_true (by unfold bo; decide +kernel)
theorem bo_1 : bo 1 = True := eq_true (by unfold bo; decide +kernel)
theorem bo_z2 (b : Bool) : bo (z2 b) = True := by cases b; exact bo_0; exact bo_1
theorem z2_t : z2 true = 1 := rfl
theorem z2_f : z2 false = 0 := rfl
theorem z2_e0 (b : Bool) : (z2 b = 0) = (b = false) := by cases b <;> decide
theorem z2_e1 (b : Bool) : (z2 b = 1) = (b = true) := by cases b <;> decide
theorem z2_n0 (b : Bool) : (¬ z2 b = 0) = (b = true) := by cases b <;> decide
theorem z2_or (b : Bool) : z2 b = 0 ∨ z2 b = 1 := by cases b <;> decide
theorem pu_s (v : Value) (st : List Value) : pu (some v) st = v :: st := rfl
theorem pu_n (st : List Value) : pu none st = st := rfl
theorem vrf_s (a : Nat) : va_rf (some a) = .ref a := rfl
theorem z2_ite (b : Bool) (A B : Prop) : (if b = true then A else B) = (if b = false then B else A) := by cases b <;> simp
theorem tc0 : (0 : Int32).toNatClampNeg = 0 := by decide
theorem tc1 : (1 : Int32).toNatClampNeg = 1 := by decide
theorem tc2 : (2 : Int32).toNatClampNeg = 2 := by decide
theorem tc3 : (3 : Int32).toNatClampNeg = 3 := by decide
theorem tc4 : (4 : Int32).toNatClampNeg = 4 := by decide
theorem tc5 : (5 : Int32).toNatClampNeg = 5 := by decide
theorem tc6 : (6 : Int32).toNatClampNeg = 6 := by decide
theorem tc7 : (7 : Int32).toNatClampNeg = 7 := by decide
theorem nIc {n : Nat} (hn : n ≤ 1000000) : (nI n).toNatClampNeg = n := nI_clamp (by omega)
theorem nIb {c N : Nat} (hc : c < N) (hN : N ≤ 1000000) : inb (nI c) N = True := eq_true (nI_in hc (by omega))
theorem lg_lt (x y : Int64) : (lg_cmp x y < 0) = (x < y) := propext (lg_cmp_lt x y)
theorem lg_gt (x y : Int64) : (0 < lg_cmp x y) = (y < x) := propext (lg_cmp_gt x y)
theorem lg_eq (x y : Int64) : (lg_cmp x y = 0) = (x = y) := propext (lg_cmp_eq x y)
def inI (v l m : Int32) : Bool := decide (l ≤ v) && decide (v ≤ m)
def inJ (v l m : Int64) : Bool := decide (l ≤ v) && decide (v ≤ m)
theorem inI_t {v l m : Int32} : inI v l m = true ↔ l ≤ v ∧ v ≤ m := by simp [inI]
theorem inJ_t {v l m : Int64} : inJ v l m = true ↔ l ≤ v ∧ v ≤ m := by simp [inJ]
theorem inI_ite {v l m : Int32} {A B : Prop} : (if v < l then B else if m < v then B else A) = if inI v l m = true then A else B := by
  unfold inI
  by_cases h1 : v < l
  · rw [if_pos h1, decide_eq_false (Int32.not_le.mpr h1), Bool.false_and, if_neg (by decide)]
  · rw [if_neg h1, decide_eq_true (Int32.not_lt.mp h1), Bool.true_and]
    by_cases h2 : m < v
    · rw [if_pos h2, decide_eq_false (Int32.not_le.mpr h2), if_neg (by decide)]
    · rw [if_neg h2, decide_eq_true (Int32.not_lt.mp h2), if_pos rfl]
theorem inJ_ite {v l m : Int64} {A B : Prop} : (if v < l then B else if m < v then B else A) = if inJ v l m = true then A else B := by
  unfold inJ
  by_cases h1 : v < l
  · rw [if_pos h1, decide_eq_false (Int64.not_le.mpr h1), Bool.false_and, if_neg (by decide)]
  · rw [if_neg h1, decide_eq_true (Int64.not_lt.mp h1), Bool.true_and]
    by_cases h2 : m < v
    · rw [if_pos h2, decide_eq_false (Int64.not_le.mpr h2), if_neg (by decide)]
    · rw [if_neg h2, decide_eq_true (Int64.not_lt.mp h2), if_pos rfl]
theorem ite_z2 {b : Bool} {P : Value → Prop} : (if b = true then P (.int 1) else P (.int 0)) = P (.int (z2 b)) := by cases b <;> rfl
theorem inJ_I (v l m : Int32) : inJ v.toInt64 l.toInt64 m.toInt64 = inI v l m := by
  unfold inJ inI
  simp only [Int64.le_iff_toInt_le, Int32.le_iff_toInt_le, Int32.toInt_toInt64]
/-- the frame: kinds, lengths and room as they were, and all contents but F's -/
def Fr (F : Nat → Nat → Prop) (h h' : Hp) : Prop := gK h' = gK h ∧ gN h' = gN h ∧ gX h' = gX h ∧ gS h' = gS h ∧ ∀ a j, ¬ F a j → gI h' a j = gI h a j ∧ gJ h' a j = gJ h a j ∧ gR h' a j = gR h a j
section
variable {F G : Nat → Nat → Prop} {h h1 h2 : Hp} {a u w : Nat}
theorem Fr.rf : Fr F h h := ⟨rfl, rfl, rfl, rfl, fun _ _ _ => ⟨rfl, rfl, rfl⟩⟩
theorem Fr.tr (q1 : Fr F h h1) (q2 : Fr F h1 h2) : Fr F h h2 := ⟨q2.1.trans q1.1, q2.2.1.trans q1.2.1, q2.2.2.1.trans q1.2.2.1, q2.2.2.2.1.trans q1.2.2.2.1, fun a j hn => ⟨(q2.2.2.2.2 a j hn).1.trans (q1.2.2.2.2 a j hn).1, (q2.2.2.2.2 a j hn).2.1.trans (q1.2.2.2.2 a j hn).2.1, (q2.2.2.2.2 a j hn).2.2.trans (q1.2.2.2.2 a j hn).2.2⟩⟩
theorem Fr.mo (q : Fr F h h1) (hF : ∀ a j, F a j → G a j) : Fr G h h1 := ⟨q.1, q.2.1, q.2.2.1, q.2.2.2.1, fun a j hn => q.2.2.2.2 a j (fun z => hn (hF a j z))⟩
theorem Fr.pI {v : Int32} (q : Fr F h h1) (ha : F a u) : Fr F h (pI h1 a u v) := q.tr ⟨rfl, rfl, rfl, rfl, fun b j hn => ⟨gI_ne (fun z => hn (by rw [z.1, z.2]; exact ha)), rfl, rfl⟩⟩
theorem Fr.pJ {v : Int64} (q : Fr F h h1) (ha : F a u) : Fr F h (pJ h1 a u v) := q.tr ⟨rfl, rfl, rfl, rfl, fun b j hn => ⟨rfl, gJ_ne (fun z => hn (by rw [z.1, z.2]; exact ha)), rfl⟩⟩
theorem Fr.pR {v : Option Nat} (q : Fr F h h1) (ha : F a u) : Fr F h (pR h1 a u v) := q.tr ⟨rfl, rfl, rfl, rfl, fun b j hn => ⟨rfl, rfl, gR_ne (fun z => hn (by rw [z.1, z.2]; exact ha))⟩⟩
theorem Fr.cpI {sp c dp n : Nat} (q : Fr F h h1) (ha : ∀ j, dp ≤ j → j < dp + n → F c j) : Fr F h (cpI h1 a sp c dp n) := q.tr ⟨rfl, rfl, rfl, rfl, fun b j hn => ⟨if_neg (fun z => hn (by rw [z.1]; exact ha j z.2.1 z.2.2)), rfl, rfl⟩⟩
theorem Fr.cpJ {sp c dp n : Nat} (q : Fr F h h1) (ha : ∀ j, dp ≤ j → j < dp + n → F c j) : Fr F h (cpJ h1 a sp c dp n) := q.tr ⟨rfl, rfl, rfl, rfl, fun b j hn => ⟨rfl, if_neg (fun z => hn (by rw [z.1]; exact ha j z.2.1 z.2.2)), rfl⟩⟩
theorem Fr.i (q : Fr F h h1) (hn : ¬ F a w) : gI h1 a w = gI h a w := (q.2.2.2.2 a w hn).1
theorem Fr.j (q : Fr F h h1) (hn : ¬ F a w) : gJ h1 a w = gJ h a w := (q.2.2.2.2 a w hn).2.1
theorem Fr.r (q : Fr F h h1) (hn : ¬ F a w) : gR h1 a w = gR h a w := (q.2.2.2.2 a w hn).2.2
theorem Fr.k (q : Fr F h h1) : gK h1 a = gK h a := congrFun q.1 a
theorem Fr.n (q : Fr F h h1) : gN h1 a = gN h a := congrFun q.2.1 a
end
/-- the constants, all below the cell b -/
def CN (b : Nat) (h : Hp) : Prop := 0 < b ∧ (∀ j, j < 9 → ∃ a, a < b ∧ gR h 0 (100 + j) = some a ∧ tbK (gK h a) = true ∧ gN h a = ((tabD.getD j ("", [])).2).length ∧ ∀ i, i < ((tabD.getD j ("", [])).2).length → gI h a i = ((tabD.getD j ("", [])).2).getD i 0) ∧ gI h 0 6009 = 1 ∧
  ∀ q ∈ srT, ∃ a v, a < b ∧ v < b ∧ gR h 0 (200 + q.2.2) = some a ∧ stK (gK h a) = true ∧ gI h a 5001 = 0 ∧ gR h a 5000 = some v ∧ btK (gK h v) = true ∧ gN h v = (strB q).length ∧ ∀ i, i < (strB q).length → gI h v i = (strB q).getD i 0
theorem CN.fr {b : Nat} {F : Nat → Nat → Prop} {h h' : Hp} (hC : CN b h) (q : Fr F h h') (hF : ∀ a j, F a j → b ≤ a) : CN b h' := by
  obtain ⟨h0, h1, h2, h3⟩ := hC
  have nF : ∀ a j, a < b → ¬ F a j := fun a j ha z => absurd (hF a j z) (Nat.not_le.mpr ha)
  refine ⟨h0, fun j hj => ?_, (q.i (nF 0 _ h0)).trans h2, fun w hw => ?_⟩
  · obtain ⟨a, e1, e2, e3, e4, e5⟩ := h1 j hj
    exact ⟨a, e1, (q.r (nF 0 _ h0)).trans e2, by rw [q.k]; exact e3, q.n.trans e4, fun i hi => (q.i (nF a _ e1)).trans (e5 i hi)⟩
  · obtain ⟨a, v, e1, e2, e3, e4, e5, e6, e7, e8, e9⟩ := h3 w hw
    exact ⟨a, v, e1, e2, (q.r (nF 0 _ h0)).trans e3, by rw [q.k]; exact e4, (q.i (nF a _ e1)).trans e5, (q.r (nF a _ e1)).trans e6, by rw [q.k]; exact e7, q.n.trans e8, fun i hi => (q.i (nF v _ e2)).trans (e9 i hi)⟩
/-- one table of constants -/
def TB (h : Hp) (j a : Nat) (l : List Int32) : Prop := gR h 0 (100 + j) = some a ∧ tbK (gK h a) = true ∧ gN h a = l.length ∧ ∀ i, i < l.length → gI h a i = l.getD i 0
theorem CN.tb {b : Nat} {h : Hp} (hC : CN b h) {j : Nat} (hj : j < 9) : ∃ a, TB h j a (tabD.getD j ("", [])).2 := by
  obtain ⟨-, h1, -⟩ := hC
  obtain ⟨a, -, e⟩ := h1 j hj
  exact ⟨a, e⟩
