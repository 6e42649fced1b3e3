/-! THE ABSTRACT MACHINE: heap of typed functions, one step ('act'), runs with fuel ('exec'), 'V': from here it ends with K -/
abbrev Hp : Type := (Nat → Nat → Int32) × (Nat → Nat → Int64) × (Nat → Nat → Option Nat) × (Nat → Nat) × (Nat → Nat) × Nat × Nat
def gI (h : Hp) : Nat → Nat → Int32 := h.1
def gJ (h : Hp) : Nat → Nat → Int64 := h.2.1
def gR (h : Hp) : Nat → Nat → Option Nat := h.2.2.1
def gK (h : Hp) : Nat → Nat := h.2.2.2.1
def gN (h : Hp) : Nat → Nat := h.2.2.2.2.1
def gX (h : Hp) : Nat := h.2.2.2.2.2.1
def gS (h : Hp) : Nat := h.2.2.2.2.2.2
def pI (h : Hp) (a k : Nat) (v : Int32) : Hp := (fun b j => if b = a ∧ j = k then v else h.1 b j, h.2)
def pJ (h : Hp) (a k : Nat) (v : Int64) : Hp := (h.1, fun b j => if b = a ∧ j = k then v else h.2.1 b j, h.2.2)
def pR (h : Hp) (a k : Nat) (v : Option Nat) : Hp := (h.1, h.2.1, fun b j => if b = a ∧ j = k then v else h.2.2.1 b j, h.2.2.2)
def cpI (h : Hp) (a sp c dp n : Nat) : Hp := (fun b j => if b = c ∧ dp ≤ j ∧ j < dp + n then h.1 a (sp + (j - dp)) else h.1 b j, h.2)
def cpJ (h : Hp) (a sp c dp n : Nat) : Hp := (h.1, fun b j => if b = c ∧ dp ≤ j ∧ j < dp + n then h.2.1 a (sp + (j - dp)) else h.2.1 b j, h.2.2)
def mk1 (h : Hp) (K N n : Nat) : Hp := (fun b j => if b = gX h then 0 else gI h b j, fun b j => if b = gX h then 0 else gJ h b j, fun b j => if b = gX h then none else gR h b j, fun b => if b = gX h then K else gK h b, fun b => if b = gX h then N else gN h b, gX h + 1, gS h + n)
def mk2 (h : Hp) (Ko Ki n k : Nat) : Hp := (fun b j => if gX h ≤ b ∧ b < gX h + 1 + n then 0 else gI h b j, fun b j => if gX h ≤ b ∧ b < gX h + 1 + n then 0 else gJ h b j, fun b j => if b = gX h then (if j < n then some (gX h + 1 + j) else none) else if gX h < b ∧ b < gX h + 1 + n then none else gR h b j, fun b => if b = gX h then Ko else if gX h < b ∧ b < gX h + 1 + n then Ki else gK h b, fun b => if b = gX h then n else if gX h < b ∧ b < gX h + 1 + n then k else gN h b, gX h + 1 + n, gS h + n + n * k)
abbrev inb (j : Int32) (n : Nat) : Prop := ¬ (j < 0 ∨ n ≤ j.toNatClampNeg)
/-- the sum of the categories of a stack -/
def cats : List Value → Nat
  | [] => 0
  | v :: st => v.category + cats st
/-- a cat-1 value may be stored at i (no long is touched); a long at i -/
def gst (y i : Nat) : Bool := i < mxl y && !(lsl y).contains i && !(decide (1 ≤ i) && (lsl y).contains (i - 1))
def gsl (y i : Nat) : Bool := i + 1 < mxl y && (lsl y).contains i && !(lsl y).contains (i + 1) && !(decide (1 ≤ i) && (lsl y).contains (i - 1))
def cjp (c : Jvm.ClassFile.Cond) (a b : Int32) : Bool := match c with
  | .eq => decide (a = b)
  | .ne => decide (¬ a = b)
  | .lt => decide (a < b)
  | .ge => decide (b ≤ a)
  | .gt => decide (b < a)
  | .le => decide (a ≤ b)
def tgp (pc : Nat) (o : Int) : Nat := ((pc : Int) + o).toNat
def un0 : Value := .retAddr 0
/-- the locals that a call's arguments make -/
def argL : List Value → List Value
  | [] => []
  | v :: vs => if v.category = 2 then v :: un0 :: argL vs else v :: argL vs
def eL (y : Nat) (vs : List Value) : List Value := argL vs ++ List.replicate (mxl y - (argL vs).length) un0
def pu (r : Option Value) (st : List Value) : List Value := match r with
  | none => st
  | some v => v :: st
abbrev Jmp : Type := Nat × List Value × List Value × Hp
abbrev Act : Type := Option Value ⊕ (Jmp ⊕ (Nat × List Value × List Value))
def aJ (pc : Nat) (L st : List Value) (h : Hp) : Option Act := some (.inr (.inl (pc, L, st, h)))
def aC (y : Nat) (as st : List Value) : Option Act := some (.inr (.inr (y, as, st)))
def aD (r : Option Value) : Option Act := some (.inl r)
/-- room for a call of z in y -/
def rmo (y z : Nat) : Bool := decide (z < 252) && frm z + 1 ≤ frm y && 8 + (mxl z + 11) + lom z ≤ lom y
/-- kinds of constants: 20 and a bit each for a table of ints, a text, a row of bytes -/
def tbK (K : Nat) : Bool := decide (20 < K) && decide ((K - 20) % 2 = 1)
def stK (K : Nat) : Bool := decide (20 < K) && decide ((K - 20) / 2 % 2 = 1)
def btK (K : Nat) : Bool := decide (20 < K) && decide ((K - 20) / 4 % 2 = 1)
def rcK (y K : Nat) : Bool := if ow y < 7 then decide (K = ow y + 1) else stK K
def nfo (ci : Nat) : Nat := nfL.getD ci 0
/-- longs among the arguments stand where the table has them; they fit -/
def lgo (z : Nat) : Nat → List Value → Bool
  | _, [] => true
  | i, v :: vs => if v.category = 2 then (lsl z).contains i && lgo z (i + 2) vs else lgo z (i + 1) vs
def ago (z : Nat) (vs : List Value) : Bool := decide ((argL vs).length ≤ mxl z) && lgo z 0 vs
def aC2 (y : Nat) (as st : List Value) : Option Act := if ago y as = true then aC y as st else none
/-- the call of table entry q, with the stack st -/
def acl (y : Nat) (q : Nat × Nat × Nat × Nat) (special stat : Bool) (L st : List Value) (h : Hp) (pc : Nat) : Option Act :=
  if q.1 = 6 then (if special = true ∧ 1 ≤ frm y ∧ 20 ≤ lom y ∧ nmo y = nmo y then (match st with
    | .ref _ :: st' => if cats st' ≤ 8 then aJ (pc + 3) L st' h else none
    | _ => none) else none)
  else if q.1 = 7 then (if stat = true ∧ 1 ≤ frm y ∧ 40 ≤ lom y then (match st with
    | .int n :: .int dp :: .ref c :: .int sp :: .ref a :: st' =>
      if ¬ sp < 0 ∧ ¬ dp < 0 ∧ ¬ n < 0 ∧ sp.toNatClampNeg + n.toNatClampNeg ≤ gN h a ∧ dp.toNatClampNeg + n.toNatClampNeg ≤ gN h c ∧ cats st' ≤ 8 ∧ gK h a = gK h c ∧ (gK h c = 8 ∨ gK h c = 9)
      then aJ (pc + 3) L st' (if gK h c = 8 then cpI h a sp.toNatClampNeg c dp.toNatClampNeg n.toNatClampNeg else cpJ h a sp.toNatClampNeg c dp.toNatClampNeg n.toNatClampNeg) else none
    | _ => none) else none)
  else if q.1 = 8 then (if stat = true ∧ 1 ≤ frm y ∧ 40 ≤ lom y then (match st with
    | .int b :: .int a :: st' => if cats st' ≤ 8 then aJ (pc + 3) L (.int (if a < b then b else a) :: st') h else none
    | _ => none) else none)
  else if q.1 = 9 then (if stat = true ∧ 1 ≤ frm y ∧ 40 ≤ lom y then (match st with
    | .int b :: .int a :: st' => if cats st' ≤ 8 then aJ (pc + 3) L (.int (if b < a then b else a) :: st') h else none
    | _ => none) else none)
  else if rmo y q.2.1 = true then
    (if (q.1 = 1 ∨ q.1 = 4) ∧ stat = true then (if q.2.2.1 ≤ st.length ∧ cats (st.drop q.2.2.1) ≤ 8 then aC2 q.2.1 (st.take q.2.2.1).reverse (st.drop q.2.2.1) else none)
     else if ((q.1 = 0 ∧ special = false) ∨ ((q.1 = 2 ∨ q.1 = 5) ∧ special = true)) ∧ stat = false then (match st.drop q.2.2.1 with
      | .ref a :: st' => if q.2.2.1 ≤ st.length ∧ cats st' ≤ 8 ∧ rcK q.2.1 (gK h a) = true then aC2 q.2.1 (.ref a :: (st.take q.2.2.1).reverse) st' else none
      | _ => none)
     else none)
  else none
/-- what a putfield writes -/
def ptf (y ci k : Nat) (v : Value) (a : Nat) (h : Hp) : Option Hp :=
  if ci < 7 ∧ gK h a = ci + 1 ∧ k < nfo ci ∧ (isf ci k = true → (nmo y).name = "<init>" ∧ ow y = ci) then
    (if isr ci k = true then (match v with
      | .ref b => some (pR h a k (some b))
      | .null => some (pR h a k none)
      | _ => none)
    else (match v with
      | .int x => if ci = 5 ∧ ¬ (x = 0 ∨ x = 1) then none else some (pI h a k x)
      | _ => none))
  else none
def kdt (t : ArrayType) : Nat := match t with
  | .int => 8
  | .long => 9
  | .boolean => 10
  | _ => 0
def sxx (y pc : Nat) (ins : Instr) (L st : List Value) (h : Hp) : Option Act := match ins with
  | .iconst i => aJ (pc + 1) L (.int (Int32.ofInt i) :: st) h
  | .bipush i => aJ (pc + 2) L (.int (Int8.ofInt i).toInt32 :: st) h
  | .sipush i => aJ (pc + 3) L (.int (Int16.ofInt i).toInt32 :: st) h
  | .lconst k => aJ (pc + 1) L (.long (Int64.ofNat k.val) :: st) h
  | .ldc i => (match tfind ciT (ow y) i with
    | some v => aJ (pc + 2) L (.int v.1 :: st) h
    | none => (match tfind srT (ow y) i with
      | some q => aJ (pc + 2) L (va_rf (gR h 0 (200 + q.2)) :: st) h
      | none => none))
  | .ldc_w i => (match tfind ciT (ow y) i with
    | some v => aJ (pc + 3) L (.int v.1 :: st) h
    | none => none)
  | .ldc2_w i => (match tfind cjT (ow y) i with
    | some v => aJ (pc + 3) L (.long v.1 :: st) h
    | none => none)
  | .iload_n k => (match L[k.val]? with
    | some (.int x) => aJ (pc + 1) L (.int x :: st) h
    | _ => none)
  | .iload i => (match L[i]? with
    | some (.int x) => aJ (pc + 2) L (.int x :: st) h
    | _ => none)
  | .lload_n k => (match L[k.val]? with
    | some (.long x) => aJ (pc + 1) L (.long x :: st) h
    | _ => none)
  | .lload i => (match L[i]? with
    | some (.long x) => aJ (pc + 2) L (.long x :: st) h
    | _ => none)
  | .aload_n k => (match L[k.val]? with
    | some (.ref x) => aJ (pc + 1) L (.ref x :: st) h
    | _ => none)
  | .aload i => (match L[i]? with
    | some (.ref x) => aJ (pc + 2) L (.ref x :: st) h
    | _ => none)
  | .istore_n k => (match st with
    | .int x :: st' => if gst y k.val = true then aJ (pc + 1) (L.set k.val (.int x)) st' h else none
    | _ => none)
  | .istore i => (match st with
    | .int x :: st' => if gst y i = true then aJ (pc + 2) (L.set i (.int x)) st' h else none
    | _ => none)
  | .lstore_n k => (match st with
    | .long x :: st' => if gsl y k.val = true then aJ (pc + 1) ((L.set k.val (.long x)).set (k.val + 1) un0) st' h else none
    | _ => none)
  | .astore_n k => (match st with
    | .ref x :: st' => if gst y k.val = true then aJ (pc + 1) (L.set k.val (.ref x)) st' h else none
    | _ => none)
  | .astore i => (match st with
    | .ref x :: st' => if gst y i = true then aJ (pc + 2) (L.set i (.ref x)) st' h else none
    | _ => none)
  | .iinc i n => (match L[i]? with
    | some (.int x) => if gst y i = true then aJ (pc + 3) (L.set i (.int (x + Int32.ofInt n))) st h else none
    | _ => none)
  | .iadd => (match st with
    | .int b :: .int a :: st' => aJ (pc + 1) L (.int (a + b) :: st') h
    | _ => none)
  | .isub => (match st with
    | .int b :: .int a :: st' => aJ (pc + 1) L (.int (a - b) :: st') h
    | _ => none)
  | .imul => (match st with
    | .int b :: .int a :: st' => aJ (pc + 1) L (.int (a * b) :: st') h
    | _ => none)
  | .idiv => (match st with
    | .int b :: .int a :: st' => if b = 0 then none else aJ (pc + 1) L (.int (a / b) :: st') h
    | _ => none)
  | .irem => (match st with
    | .int b :: .int a :: st' => if b = 0 then none else aJ (pc + 1) L (.int (a - a / b * b) :: st') h
    | _ => none)
  | .ineg => (match st with
    | .int a :: st' => aJ (pc + 1) L (.int (-a) :: st') h
    | _ => none)
  | .iand => (match st with
    | .int b :: .int a :: st' => aJ (pc + 1) L (.int (a &&& b) :: st') h
    | _ => none)
  | .ior => (match st with
    | .int b :: .int a :: st' => aJ (pc + 1) L (.int (a ||| b) :: st') h
    | _ => none)
  | .ishl => (match st with
    | .int b :: .int a :: st' => aJ (pc + 1) L (.int (a <<< (b &&& 31)) :: st') h
    | _ => none)
  | .ishr => (match st with
    | .int b :: .int a :: st' => aJ (pc + 1) L (.int (a >>> (b &&& 31)) :: st') h
    | _ => none)
  | .iushr => (match st with
    | .int b :: .int a :: st' => aJ (pc + 1) L (.int (a.toUInt32 >>> (b.toUInt32 &&& Int32.toUInt32 31)).toInt32 :: st') h
    | _ => none)
  | .i2l => (match st with
    | .int a :: st' => aJ (pc + 1) L (.long a.toInt64 :: st') h
    | _ => none)
  | .l2i => (match st with
    | .long a :: st' => aJ (pc + 1) L (.int a.toInt32 :: st') h
    | _ => none)
  | .i2b => (match st with
    | .int a :: st' => aJ (pc + 1) L (.int a.toInt8.toInt32 :: st') h
    | _ => none)
  | .i2s => (match st with
    | .int a :: st' => aJ (pc + 1) L (.int a.toInt16.toInt32 :: st') h
    | _ => none)
  | .i2c => (match st with
    | .int a :: st' => aJ (pc + 1) L (.int (a.toUInt32 % 65536).toInt32 :: st') h
    | _ => none)
  | .lcmp => (match st with
    | .long b :: .long a :: st' => aJ (pc + 1) L (.int (lg_cmp a b) :: st') h
    | _ => none)
  | .land => (match st with
    | .long b :: .long a :: st' => aJ (pc + 1) L (.long (a &&& b) :: st') h
    | _ => none)
  | .lor => (match st with
    | .long b :: .long a :: st' => aJ (pc + 1) L (.long (a ||| b) :: st') h
    | _ => none)
  | .lshl => (match st with
    | .int b :: .long a :: st' => aJ (pc + 1) L (.long (a <<< (b.toInt64 &&& 63)) :: st') h
    | _ => none)
  | .dup => (match st with
    | v :: st' => if v.category = 1 then aJ (pc + 1) L (v :: v :: st') h else none
    | _ => none)
  | .dup_x1 => (match st with
    | v :: w :: st' => if v.category = 1 ∧ w.category = 1 then aJ (pc + 1) L (v :: w :: v :: st') h else none
    | _ => none)
  | .dup2 => (match st with
    | v :: w :: st' => if v.category = 1 ∧ w.category = 1 then aJ (pc + 1) L (v :: w :: v :: w :: st') h else none
    | _ => none)
  | .pop => (match st with
    | v :: st' => if v.category = 1 then aJ (pc + 1) L st' h else none
    | _ => none)
  | .getfield i => (match tfind fdT (ow y) i with
    | some q => (match st with
      | .ref a :: st' =>
        if q.1 < 7 then (if gK h a = q.1 + 1 ∧ q.2.1 < nfo q.1 then aJ (pc + 3) L ((if isr q.1 q.2.1 = true then va_rf (gR h a q.2.1) else .int (gI h a q.2.1)) :: st') h else none)
        else if stK (gK h a) = true ∧ q.1 = 20 ∧ q.2.1 < 2 then aJ (pc + 3) L ((if q.2.1 = 0 then va_rf (gR h a 5000) else .int (gI h a 5001)) :: st') h else none
      | _ => none)
    | none => none)
  | .putfield i => (match tfind fdT (ow y) i with
    | some q => (match st with
      | v :: .ref a :: st' => (match ptf y q.1 q.2.1 v a h with
        | some h' => aJ (pc + 3) L st' h'
        | none => none)
      | _ => none)
    | none => none)
  | .getstatic i => (match tfind scT (ow y) i with
    | some q => (match stT[q.1]? with
      | some w => aJ (pc + 3) L ((if w.2.2.2 = true then va_rf (gR h 0 (100 + q.1)) else .int (gI h 0 (6000 + q.1))) :: st) h
      | none => none)
    | none => none)
  | .iaload => (match st with
    | .int j :: .ref a :: st' => if (gK h a = 8 ∨ tbK (gK h a) = true) ∧ inb j (gN h a) then aJ (pc + 1) L (.int (gI h a j.toNatClampNeg) :: st') h else none
    | _ => none)
  | .laload => (match st with
    | .int j :: .ref a :: st' => if gK h a = 9 ∧ inb j (gN h a) then aJ (pc + 1) L (.long (gJ h a j.toNatClampNeg) :: st') h else none
    | _ => none)
  | .baload => (match st with
    | .int j :: .ref a :: st' => if (gK h a = 10 ∨ btK (gK h a) = true) ∧ inb j (gN h a) then aJ (pc + 1) L (.int (gI h a j.toNatClampNeg) :: st') h else none
    | _ => none)
  | .aaload => (match st with
    | .int j :: .ref a :: st' => if (gK h a = 11 ∨ gK h a = 12 ∨ gK h a = 13) ∧ inb j (gN h a) then aJ (pc + 1) L (va_rf (gR h a j.toNatClampNeg) :: st') h else none
    | _ => none)
  | .iastore => (match st with
    | .int x :: .int j :: .ref a :: st' => if gK h a = 8 ∧ inb j (gN h a) then aJ (pc + 1) L st' (pI h a j.toNatClampNeg x) else none
    | _ => none)
  | .lastore => (match st with
    | .long x :: .int j :: .ref a :: st' => if gK h a = 9 ∧ inb j (gN h a) then aJ (pc + 1) L st' (pJ h a j.toNatClampNeg x) else none
    | _ => none)
  | .bastore => (match st with
    | .int x :: .int j :: .ref a :: st' => if gK h a = 10 ∧ inb j (gN h a) ∧ (x = 0 ∨ x = 1) then aJ (pc + 1) L st' (pI h a j.toNatClampNeg x) else none
    | _ => none)
  | .aastore => (match st with
    | .ref b :: .int j :: .ref a :: st' => if ((gK h a = 11 ∧ gK h b = 2) ∨ (gK h a = 12 ∧ gK h b = 8)) ∧ inb j (gN h a) then aJ (pc + 1) L st' (pR h a j.toNatClampNeg (some b)) else none
    | _ => none)
  | .arraylength => (match st with
    | .ref a :: st' => if (8 ≤ gK h a ∧ gK h a ≤ 13) ∨ tbK (gK h a) = true ∨ btK (gK h a) = true then aJ (pc + 1) L (.int (Int32.ofNat (gN h a)) :: st') h else none
    | _ => none)
  | .newarray t => (match st with
    | .int n :: st' => if ¬ n < 0 ∧ n.toNatClampNeg ≤ 1000 ∧ kdt t ≠ 0 then aJ (pc + 2) L (.ref (gX h) :: st') (mk1 h (kdt t) n.toNatClampNeg n.toNatClampNeg) else none
    | _ => none)
  | .new i => (match tfind csT (ow y) i with
    | some q => if q.1 < 7 then aJ (pc + 3) L (.ref (gX h) :: st) (mk1 h (q.1 + 1) 0 (nfo q.1)) else none
    | none => none)
  | .anewarray i => (match tfind csT (ow y) i with
    | some q => (match st with
      | .int n :: st' => if q.1 = 1 ∧ ¬ n < 0 ∧ n.toNatClampNeg ≤ 1000 then aJ (pc + 3) L (.ref (gX h) :: st') (mk1 h 11 n.toNatClampNeg n.toNatClampNeg) else none
      | _ => none)
    | none => none)
  | .multianewarray i d => (match tfind csT (ow y) i with
    | some q => (match st with
      | .int k :: .int n :: st' => if d = 2 ∧ (q.1 = 12 ∨ q.1 = 13) ∧ ¬ n < 0 ∧ ¬ k < 0 ∧ n.toNatClampNeg ≤ 1000 ∧ k.toNatClampNeg ≤ 1000 then aJ (pc + 4) L (.ref (gX h) :: st') (mk2 h q.1 (q.1 - 4) n.toNatClampNeg k.toNatClampNeg) else none
      | _ => none)
    | none => none)
  | .goto o => if 0 ≤ (pc : Int) + o then aJ (tgp pc o) L st h else none
  | .if_icmp c o => (match st with
    | .int b :: .int a :: st' => if 0 ≤ (pc : Int) + o then (if cjp c a b = true then aJ (tgp pc o) L st' h else aJ (pc + 3) L st' h) else none
    | _ => none)
  | .ifCond c o => (match st with
    | .int a :: st' => if 0 ≤ (pc : Int) + o then (if cjp c a 0 = true then aJ (tgp pc o) L st' h else aJ (pc + 3) L st' h) else none
    | _ => none)
  | .ifnonnull o => (match st with
    | .ref _ :: st' => if 0 ≤ (pc : Int) + o then aJ (tgp pc o) L st' h else none
    | .null :: st' => aJ (pc + 3) L st' h
    | _ => none)
  | .ifnull o => (match st with
    | .ref _ :: st' => aJ (pc + 3) L st' h
    | _ => none)
  | .tableswitch d lo hi offs => (match st with
    | .int x :: st' => if x.toInt < lo ∨ hi < x.toInt then (if 0 ≤ (pc : Int) + d then aJ (tgp pc d) L st' h else none)
      else (match offs[(x.toInt - lo).toNat]? with
        | some o => if 0 ≤ (pc : Int) + o then aJ (tgp pc o) L st' h else none
        | none => none)
    | _ => none)
  | .invokevirtual i => (match tfind clT (ow y) i with
    | some q => acl y q false false L st h pc
    | none => none)
  | .invokespecial i => (match tfind clT (ow y) i with
    | some q => acl y q true false L st h pc
    | none => none)
  | .invokestatic i => (match tfind clT (ow y) i with
    | some q => acl y q false true L st h pc
    | none => none)
  | .ireturn => (match st with
    | [.int v] => (match rty y with
      | some t => if (t = .int ∨ t = .boolean ∨ t = .byte ∨ t = .char) ∧ narrow t (.int v) = .int v then aD (some (.int v)) else none
      | none => none)
    | _ => none)
  | .lreturn => (match st with
    | [.long v] => if rty y = some .long then aD (some (.long v)) else none
    | _ => none)
  | .areturn => (match st with
    | [.ref v] => (match rty y with
      | some (.object _) => aD (some (.ref v))
      | _ => none)
    | _ => none)
  | .return_ => (match st with
    | [] => if rty y = none then aD none else none
    | _ => none)
  | _ => none
/-- the length of each -/
def lnB (ins : Instr) (len : Nat) : Bool := match ins with
  | .bipush _ | .ldc _ | .iload _ | .lload _ | .aload _ | .istore _ | .astore _ | .newarray _ => len == 2
  | .sipush _ | .ldc_w _ | .ldc2_w _ | .iinc _ _ | .getfield _ | .putfield _ | .getstatic _ | .new _ | .anewarray _ | .goto _ | .if_icmp _ _ | .ifCond _ _ | .ifnonnull _ | .ifnull _ | .invokevirtual _ | .invokespecial _ | .invokestatic _ => len == 3
  | .multianewarray _ _ => len == 4
  | .tableswitch _ _ _ _ => true
  | _ => len == 1
def act (y pc : Nat) (L st : List Value) (h : Hp) : Option Act := match decode (bts y) pc with
  | .error _ => none
  | .ok (ins, len) => if lnB ins len = true then sxx y pc ins L st h else none
def exec : Nat → Nat → Nat → List Value → List Value → Hp → Option (Option Value × Hp)
  | 0, _, _, _, _, _ => none
  | n + 1, y, pc, L, st, h => match act y pc L st h with
    | none => none
    | some (.inl r) => some (r, h)
    | some (.inr (.inl q)) => exec n y q.1 q.2.1 q.2.2.1 q.2.2.2
    | some (.inr (.inr q)) => match exec n q.1 0 (eL q.1 q.2.1) [] h with
      | none => none
      | some (r, h1) => exec n y (pc + 3) L (pu r q.2.2) h1
theorem exec_up : ∀ (n y pc : Nat) (L st : List Value) (h : Hp) (x : Option Value × Hp), exec n y pc L st h = some x → exec (n + 1) y pc L st h = some x := by
  intro n
  induction n with
  | zero =>
    intro y pc L st h x e
    simp [exec] at e
  | succ n ih =>
    intro y pc L st h x e
    rw [exec] at e ⊢
    cases ha : act y pc L st h with
    | none => rw [ha] at e; simp at e
    | some a =>
      rw [ha] at e
      match a with
      | .inl r => exact e
      | .inr (.inl q) => exact ih _ _ _ _ _ _ e
      | .inr (.inr q) =>
        dsimp only at e ⊢
        cases hb : exec n q.1 0 (eL q.1 q.2.1) [] h with
        | none => rw [hb] at e; simp at e
        | some z =>
          rw [hb] at e
          rw [ih _ _ _ _ _ _ hb]
          exact ih _ _ _ _ _ _ e
theorem exec_le {n m y pc : Nat} {L st : List Value} {h : Hp} {x : Option Value × Hp} (hnm : n ≤ m) (e : exec n y pc L st h = some x) : exec m y pc L st h = some x := by
  obtain ⟨k, rfl⟩ : ∃ k, m = n + k := ⟨m - n, by omega⟩
  clear hnm
  induction k with
  | zero => exact e
  | succ k ih => exact exec_up _ _ _ _ _ _ _ ih
def V (y pc : Nat) (L st : List Value) (h : Hp) (K : Option Value → Hp → Prop) : Prop := ∃ (n : Nat) (r : Option Value) (h' : Hp), exec n y pc L st h = some (r, h') ∧ K r h'
def AM (y : Nat) (as : List Value) (h : Hp) (K : Option Value → Hp → Prop) : Prop := V y 0 (eL y as) [] h K
theorem V_jump {y pc pc' : Nat} {L st L' st' : List Value} {h h' : Hp} {K : Option Value → Hp → Prop} (ha : act y pc L st h = some (.inr (.inl (pc', L', st', h')))) : V y pc L st h K = V y pc' L' st' h' K := by
  apply propext
  constructor
  · rintro ⟨n, r, h1, e, k⟩
    cases n with
    | zero => simp [exec] at e
    | succ n => rw [exec, ha] at e; exact ⟨n, r, h1, e, k⟩
  · rintro ⟨n, r, h1, e, k⟩
    exact ⟨n + 1, r, h1, by rw [exec, ha]; exact e, k⟩
theorem V_done {y pc : Nat} {L st : List Value} {h : Hp} {r : Option Value} {K : Option Value → Hp → Prop} (ha : act y pc L st h = some (.inl r)) : V y pc L st h K = K r h := by
  apply propext
  constructor
  · rintro ⟨n, r1, h1, e, k⟩
    cases n with
    | zero => simp [exec] at e
    | succ n =>
      rw [exec, ha] at e
      cases e
      exact k
  · intro k
    exact ⟨1, r, h, by rw [exec, ha], k⟩
theorem V_dead {y pc : Nat} {L st : List Value} {h : Hp} {K : Option Value → Hp → Prop} (ha : act y pc L st h = none) : V y pc L st h K = False := by
  apply propext
  constructor
  · rintro ⟨n, r1, h1, e, k⟩
    cases n with
    | zero => simp [exec] at e
    | succ n => rw [exec, ha] at e; simp at e
  · exact False.elim
theorem V_call {y pc z : Nat} {L st as st' : List Value} {h : Hp} {K : Option Value → Hp → Prop} (ha : act y pc L st h = some (.inr (.inr (z, as, st')))) : V y pc L st h K = AM z as h (fun r h1 => V y (pc + 3) L (pu r st') h1 K) := by
  apply propext
  constructor
  · rintro ⟨n, r, h1, e, k⟩
    cases n with
    | zero => simp [exec] at e
    | succ n =>
      rw [exec, ha] at e
      dsimp only at e
      cases hb : exec n z 0 (eL z as) [] h with
      | none => rw [hb] at e; simp at e
      | some q =>
        rw [hb] at e
        exact ⟨n, q.1, q.2, hb, n, r, h1, e, k⟩
  · rintro ⟨n, q1, q2, e, m, r, h1, e2, k⟩
    refine ⟨n + m + 1, r, h1, ?_, k⟩
    rw [exec, ha]
    dsimp only
    rw [exec_le (m := n + m) (by omega) e]
    exact exec_le (by omega) e2
theorem act_of {y pc len : Nat} {ins : Instr} {L st : List Value} {h : Hp} (hd : decode (bts y) pc = .ok (ins, len)) (hl : lnB ins len = true) : act y pc L st h = sxx y pc ins L st h := by
  rw [act, hd]
  dsimp only
  rw [if_pos hl]
theorem AM_mono {y : Nat} {as : List Value} {h : Hp} {K K' : Option Value → Hp → Prop} (hm : AM y as h K) (hk : ∀ r h', K r h' → K' r h') : AM y as h K' := by
  obtain ⟨n, r, h', e, k⟩ := hm
  exact ⟨n, r, h', e, hk r h' k⟩
theorem V_mono {y pc : Nat} {L st : List Value} {h : Hp} {K K' : Option Value → Hp → Prop} (hm : V y pc L st h K) (hk : ∀ r h', K r h' → K' r h') : V y pc L st h K' := by
  obtain ⟨n, r, h', e, k⟩ := hm
  exact ⟨n, r, h', e, hk r h' k⟩
