/-! THE LAW'S CASES -/
def LH (b ar n i : Nat) (xs : Nat → Int32) (u : LU) (A : XA) (h : Hp) : Prop := CL b A h ∧ MR (b + 138) u A h ∧ WF A ∧ ar < b ∧ i + 6 ≤ n ∧ n ≤ 3072 ∧ tbK (gK h ar) = true ∧ gN h ar = n ∧ ∀ j, j < n → gI h ar j = xs j
def LN (b ar i : Nat) (h : Hp) (K : Option Value → Hp → Prop) : Prop := ∀ h2 u2 A2, CL b A2 h2 → MR (b + 138) u2 A2 h2 → WF A2 → Ag b h h2 → gX h2 ≤ gX h + 200 → gS h2 ≤ gS h + 4000 → V 251 1727 [.ref ar, .ref b, .ref (b + 138), .int (nI i)] [] h2 K
section
variable {b ar n i : Nat} {xs : Nat → Int32} {u : LU} {A : XA} {h : Hp} {K : Option Value → Hp → Prop}
theorem lc_0 (hL : LH b ar n i xs u A h) (hN : LN b ar i h K) : V 251 264 [.ref ar, .ref b, .ref (b + 138), .int (nI i)] [] h K := by
  obtain ⟨hC, hR, hW, har, hi, hn, ka, na, xa⟩ := hL
  have kb := hC.1.2.1
  have e1 : nI i + 1 = nI (i + 1) := nI_add i 1
  have c1 : (nI (i + 1)).toNatClampNeg = i + 1 := nIc (by omega)
  have i1 : inb (nI (i + 1)) n = True := nIb (by omega) (by omega)
  have x1 := xa (i + 1) (by omega)
  have e2 : nI i + 2 = nI (i + 2) := nI_add i 2
  have c2 : (nI (i + 2)).toNatClampNeg = i + 2 := nIc (by omega)
  have i2 : inb (nI (i + 2)) n = True := nIb (by omega) (by omega)
  have x2 := xa (i + 2) (by omega)
  have e3 : nI i + 3 = nI (i + 3) := nI_add i 3
  have c3 : (nI (i + 3)).toNatClampNeg = i + 3 := nIc (by omega)
  have i3 : inb (nI (i + 3)) n = True := nIb (by omega) (by omega)
  have x3 := xa (i + 3) (by omega)
  simp only [v251_264, v251_265, v251_266, v251_267, v251_268, v251_269, v251_270, v251_271, v251_272, v251_273, v251_274, v251_275, v251_276, v251_277, v251_278, v251_279, v251_280, e1, c1, i1, e2, c2, i2, e3, c3, i3, x1, x2, x3, ka, na, kb, true_and, or_true, and_self]
  refine k54 hC hW _ _ _ (fun h1 q1 hC1 => ?_)
  have hR1 := hR.cw hW q1
  have km := hR1.2.1.k0
  have ka1 : tbK (gK h1 ar) = true := by rw [q1.k]; exact ka
  have na1 : gN h1 ar = n := q1.n.trans na
  have y1 : gI h1 ar (i + 1) = xs (i + 1) := (q1.i (fun z => by unfold CW at z; omega)).trans x1
  have y2 : gI h1 ar (i + 2) = xs (i + 2) := (q1.i (fun z => by unfold CW at z; omega)).trans x2
  have y3 : gI h1 ar (i + 3) = xs (i + 3) := (q1.i (fun z => by unfold CW at z; omega)).trans x3
  simp only [pu_s, v251_283, v251_284, v251_285, v251_286, v251_287, v251_288, v251_289, v251_290, v251_291, v251_292, v251_293, v251_294, v251_295, v251_296, v251_297, v251_298, v251_299, e1, c1, i1, e2, c2, i2, e3, c3, i3, y1, y2, y3, ka1, na1, km, true_and, or_true, and_self]
  refine k138 hR1 hW _ _ _ (fun h2 u2 q2 hR2 => ?_)
  have hC2 := hC1.ag (wRow hW _ _ _) q2.1
  simp only [pu_s, v251_302, reduceIte]
  exact hN h2 u2 _ hC2 hR2 (wRow hW _ _ _) ((Ag.of q1 (fun a j z => z.1)).tr (q2.1.mo (by omega))) (by have := q2.2.2.1; rw [q1.2.2.1] at this; exact this) (by have := q2.2.2.2; rw [q1.2.2.2.1] at this; exact this)
theorem lc_1 (hL : LH b ar n i xs u A h) (hN : LN b ar i h K) : V 251 307 [.ref ar, .ref b, .ref (b + 138), .int (nI i)] [] h K := by
  obtain ⟨hC, hR, hW, har, hi, hn, ka, na, xa⟩ := hL
  have kb := hC.1.2.1
  have e1 : nI i + 1 = nI (i + 1) := nI_add i 1
  have c1 : (nI (i + 1)).toNatClampNeg = i + 1 := nIc (by omega)
  have i1 : inb (nI (i + 1)) n = True := nIb (by omega) (by omega)
  have x1 := xa (i + 1) (by omega)
  have e2 : nI i + 2 = nI (i + 2) := nI_add i 2
  have c2 : (nI (i + 2)).toNatClampNeg = i + 2 := nIc (by omega)
  have i2 : inb (nI (i + 2)) n = True := nIb (by omega) (by omega)
  have x2 := xa (i + 2) (by omega)
  have e3 : nI i + 3 = nI (i + 3) := nI_add i 3
  have c3 : (nI (i + 3)).toNatClampNeg = i + 3 := nIc (by omega)
  have i3 : inb (nI (i + 3)) n = True := nIb (by omega) (by omega)
  have x3 := xa (i + 3) (by omega)
  have e4 : nI i + 4 = nI (i + 4) := nI_add i 4
  have c4 : (nI (i + 4)).toNatClampNeg = i + 4 := nIc (by omega)
  have i4 : inb (nI (i + 4)) n = True := nIb (by omega) (by omega)
  have x4 := xa (i + 4) (by omega)
  simp only [v251_307, v251_308, v251_309, v251_310, v251_311, v251_312, v251_313, v251_314, v251_315, v251_316, v251_317, v251_318, v251_319, v251_320, v251_321, v251_322, v251_323, v251_324, v251_326, v251_327, v251_328, v251_329, v251_330, v251_331, v251_332, v251_333, v251_336, v251_337, v251_338, e1, c1, i1, e2, c2, i2, e3, c3, i3, e4, c4, i4, x1, x2, x3, x4, ka, na, kb, true_and, or_true, and_self]
  refine k55 hC hW _ _ _ (fun h1 q1 hC1 => ?_)
  have hR1 := hR.cw hW q1
  have km := hR1.2.1.k0
  have ka1 : tbK (gK h1 ar) = true := by rw [q1.k]; exact ka
  have na1 : gN h1 ar = n := q1.n.trans na
  have y1 : gI h1 ar (i + 1) = xs (i + 1) := (q1.i (fun z => by unfold CW at z; omega)).trans x1
  have y2 : gI h1 ar (i + 2) = xs (i + 2) := (q1.i (fun z => by unfold CW at z; omega)).trans x2
  have y3 : gI h1 ar (i + 3) = xs (i + 3) := (q1.i (fun z => by unfold CW at z; omega)).trans x3
  have y4 : gI h1 ar (i + 4) = xs (i + 4) := (q1.i (fun z => by unfold CW at z; omega)).trans x4
  simp only [pu_s, v251_341, v251_342, v251_343, v251_344, v251_345, v251_346, v251_347, v251_348, v251_349, v251_350, v251_351, v251_352, v251_353, v251_354, v251_355, v251_356, v251_357, v251_358, v251_360, v251_361, v251_362, v251_363, v251_364, v251_365, v251_366, v251_367, v251_370, v251_371, v251_372, e1, c1, i1, e2, c2, i2, e3, c3, i3, e4, c4, i4, y1, y2, y3, y4, ka1, na1, km, true_and, or_true, and_self]
  refine k141 hR1 hW _ _ _ (fun h2 u2 q2 hR2 => ?_)
  have hC2 := hC1.ag (wSet hW _ _ _) q2.1
  simp only [pu_s, v251_375, reduceIte]
  exact hN h2 u2 _ hC2 hR2 (wSet hW _ _ _) ((Ag.of q1 (fun a j z => z.1)).tr (q2.1.mo (by omega))) (by have := q2.2.2.1; rw [q1.2.2.1] at this; exact this) (by have := q2.2.2.2; rw [q1.2.2.2.1] at this; exact this)
theorem lc_2 (hL : LH b ar n i xs u A h) (hN : LN b ar i h K) : V 251 380 [.ref ar, .ref b, .ref (b + 138), .int (nI i)] [] h K := by
  obtain ⟨hC, hR, hW, har, hi, hn, ka, na, xa⟩ := hL
  have kb := hC.1.2.1
  have e1 : nI i + 1 = nI (i + 1) := nI_add i 1
  have c1 : (nI (i + 1)).toNatClampNeg = i + 1 := nIc (by omega)
  have i1 : inb (nI (i + 1)) n = True := nIb (by omega) (by omega)
  have x1 := xa (i + 1) (by omega)
  have e2 : nI i + 2 = nI (i + 2) := nI_add i 2
  have c2 : (nI (i + 2)).toNatClampNeg = i + 2 := nIc (by omega)
  have i2 : inb (nI (i + 2)) n = True := nIb (by omega) (by omega)
  have x2 := xa (i + 2) (by omega)
  have e3 : nI i + 3 = nI (i + 3) := nI_add i 3
  have c3 : (nI (i + 3)).toNatClampNeg = i + 3 := nIc (by omega)
  have i3 : inb (nI (i + 3)) n = True := nIb (by omega) (by omega)
  have x3 := xa (i + 3) (by omega)
  have e4 : nI i + 4 = nI (i + 4) := nI_add i 4
  have c4 : (nI (i + 4)).toNatClampNeg = i + 4 := nIc (by omega)
  have i4 : inb (nI (i + 4)) n = True := nIb (by omega) (by omega)
  have x4 := xa (i + 4) (by omega)
  have e5 : nI i + 5 = nI (i + 5) := nI_add i 5
  have c5 : (nI (i + 5)).toNatClampNeg = i + 5 := nIc (by omega)
  have i5 : inb (nI (i + 5)) n = True := nIb (by omega) (by omega)
  have x5 := xa (i + 5) (by omega)
  simp only [v251_380, v251_381, v251_382, v251_383, v251_384, v251_385, v251_386, v251_387, v251_388, v251_389, v251_390, v251_391, v251_392, v251_393, v251_394, v251_395, v251_396, v251_397, v251_398, v251_399, v251_400, v251_401, v251_402, v251_403, v251_404, v251_405, v251_406, e1, c1, i1, e2, c2, i2, e3, c3, i3, e4, c4, i4, e5, c5, i5, x1, x2, x3, x4, x5, ka, na, kb, true_and, or_true, and_self]
  refine k56 hC hW _ _ _ _ _ (fun h1 q1 hC1 => ?_)
  have hR1 := hR.cw hW q1
  have km := hR1.2.1.k0
  have ka1 : tbK (gK h1 ar) = true := by rw [q1.k]; exact ka
  have na1 : gN h1 ar = n := q1.n.trans na
  have y1 : gI h1 ar (i + 1) = xs (i + 1) := (q1.i (fun z => by unfold CW at z; omega)).trans x1
  have y2 : gI h1 ar (i + 2) = xs (i + 2) := (q1.i (fun z => by unfold CW at z; omega)).trans x2
  have y3 : gI h1 ar (i + 3) = xs (i + 3) := (q1.i (fun z => by unfold CW at z; omega)).trans x3
  have y4 : gI h1 ar (i + 4) = xs (i + 4) := (q1.i (fun z => by unfold CW at z; omega)).trans x4
  have y5 : gI h1 ar (i + 5) = xs (i + 5) := (q1.i (fun z => by unfold CW at z; omega)).trans x5
  simp only [pu_s, v251_409, v251_410, v251_411, v251_412, v251_413, v251_414, v251_415, v251_416, v251_417, v251_418, v251_419, v251_420, v251_421, v251_422, v251_423, v251_424, v251_425, v251_426, v251_427, v251_428, v251_429, v251_430, v251_431, v251_432, v251_433, v251_434, v251_435, e1, c1, i1, e2, c2, i2, e3, c3, i3, e4, c4, i4, e5, c5, i5, y1, y2, y3, y4, y5, ka1, na1, km, true_and, or_true, and_self]
  refine k142 hR1 hW _ _ _ _ _ (fun h2 u2 q2 hR2 => ?_)
  have hC2 := hC1.ag (wCpy hW _ _ _ _ _) q2.1
  simp only [pu_s, v251_438, reduceIte]
  exact hN h2 u2 _ hC2 hR2 (wCpy hW _ _ _ _ _) ((Ag.of q1 (fun a j z => z.1)).tr (q2.1.mo (by omega))) (by have := q2.2.2.1; rw [q1.2.2.1] at this; exact this) (by have := q2.2.2.2; rw [q1.2.2.2.1] at this; exact this)
theorem lc_3 (hL : LH b ar n i xs u A h) (hN : LN b ar i h K) : V 251 443 [.ref ar, .ref b, .ref (b + 138), .int (nI i)] [] h K := by
  obtain ⟨hC, hR, hW, har, hi, hn, ka, na, xa⟩ := hL
  have kb := hC.1.2.1
  have e1 : nI i + 1 = nI (i + 1) := nI_add i 1
  have c1 : (nI (i + 1)).toNatClampNeg = i + 1 := nIc (by omega)
  have i1 : inb (nI (i + 1)) n = True := nIb (by omega) (by omega)
  have x1 := xa (i + 1) (by omega)
  have e2 : nI i + 2 = nI (i + 2) := nI_add i 2
  have c2 : (nI (i + 2)).toNatClampNeg = i + 2 := nIc (by omega)
  have i2 : inb (nI (i + 2)) n = True := nIb (by omega) (by omega)
  have x2 := xa (i + 2) (by omega)
  simp only [v251_443, v251_444, v251_445, v251_446, v251_447, v251_448, v251_449, v251_450, v251_451, v251_452, v251_453, v251_454, e1, c1, i1, e2, c2, i2, x1, x2, ka, na, kb, true_and, or_true, and_self]
  rw [k57 hC hW]
  have hC1 := hC
  have hR1 := hR
  have km := hR.2.1.k0
  simp only [pu_s, v251_457, v251_458, v251_459, v251_460, v251_461, v251_462, v251_463, v251_464, v251_465, v251_466, v251_467, v251_468, e1, c1, i1, e2, c2, i2, x1, x2, ka, na, km, true_and, or_true, and_self]
  rw [k143 hR hW]
  simp only [pu_s, v251_471, v251_472, lg_eq, reduceIte]
  exact hN h u A hC hR hW Ag.rf (by omega) (by omega)
theorem lc_4 (hL : LH b ar n i xs u A h) (hN : LN b ar i h K) : V 251 477 [.ref ar, .ref b, .ref (b + 138), .int (nI i)] [] h K := by
  obtain ⟨hC, hR, hW, har, hi, hn, ka, na, xa⟩ := hL
  have kb := hC.1.2.1
  have e1 : nI i + 1 = nI (i + 1) := nI_add i 1
  have c1 : (nI (i + 1)).toNatClampNeg = i + 1 := nIc (by omega)
  have i1 : inb (nI (i + 1)) n = True := nIb (by omega) (by omega)
  have x1 := xa (i + 1) (by omega)
  simp only [v251_477, v251_478, v251_479, v251_480, v251_481, v251_482, v251_483, e1, c1, i1, x1, ka, na, kb, true_and, or_true, and_self]
  rw [k58 hC]
  have hC1 := hC
  have hR1 := hR
  have km := hR.2.1.k0
  simp only [pu_s, v251_486, v251_487, v251_488, v251_489, v251_490, v251_491, v251_492, e1, c1, i1, x1, ka, na, km, true_and, or_true, and_self]
  rw [k144 hR hW]
  simp only [pu_s, v251_495, lg_eq, reduceIte]
  exact hN h u A hC hR hW Ag.rf (by omega) (by omega)
theorem lc_5 (hL : LH b ar n i xs u A h) (hN : LN b ar i h K) : V 251 500 [.ref ar, .ref b, .ref (b + 138), .int (nI i)] [] h K := by
  obtain ⟨hC, hR, hW, har, hi, hn, ka, na, xa⟩ := hL
  have kb := hC.1.2.1
  have e1 : nI i + 1 = nI (i + 1) := nI_add i 1
  have c1 : (nI (i + 1)).toNatClampNeg = i + 1 := nIc (by omega)
  have i1 : inb (nI (i + 1)) n = True := nIb (by omega) (by omega)
  have x1 := xa (i + 1) (by omega)
  have e2 : nI i + 2 = nI (i + 2) := nI_add i 2
  have c2 : (nI (i + 2)).toNatClampNeg = i + 2 := nIc (by omega)
  have i2 : inb (nI (i + 2)) n = True := nIb (by omega) (by omega)
  have x2 := xa (i + 2) (by omega)
  simp only [v251_500, v251_501, v251_502, v251_503, v251_504, v251_505, v251_506, v251_507, v251_508, v251_509, v251_510, v251_511, e1, c1, i1, e2, c2, i2, x1, x2, ka, na, kb, true_and, or_true, and_self]
  refine k59 hC hW _ _ (fun h1 q1 hC1 => ?_)
  have hR1 := hR.cw hW q1
  have km := hR1.2.1.k0
  have ka1 : tbK (gK h1 ar) = true := by rw [q1.k]; exact ka
  have na1 : gN h1 ar = n := q1.n.trans na
  have y1 : gI h1 ar (i + 1) = xs (i + 1) := (q1.i (fun z => by unfold CW at z; omega)).trans x1
  have y2 : gI h1 ar (i + 2) = xs (i + 2) := (q1.i (fun z => by unfold CW at z; omega)).trans x2
  simp only [pu_s, v251_514, v251_515, v251_516, v251_517, v251_518, v251_519, v251_520, v251_521, v251_522, v251_523, v251_524, v251_525, e1, c1, i1, e2, c2, i2, y1, y2, ka1, na1, km, true_and, or_true, and_self]
  refine k145 hR1 hW _ _ (fun h2 u2 q2 hR2 => ?_)
  have hC2 := hC1.ag (wShw hW _ _) q2.1
  simp only [pu_s, v251_528, reduceIte]
  exact hN h2 u2 _ hC2 hR2 (wShw hW _ _) ((Ag.of q1 (fun a j z => z.1)).tr (q2.1.mo (by omega))) (by have := q2.2.2.1; rw [q1.2.2.1] at this; exact this) (by have := q2.2.2.2; rw [q1.2.2.2.1] at this; exact this)
theorem lc_6 (hL : LH b ar n i xs u A h) (hN : LN b ar i h K) : V 251 533 [.ref ar, .ref b, .ref (b + 138), .int (nI i)] [] h K := by
  obtain ⟨hC, hR, hW, har, hi, hn, ka, na, xa⟩ := hL
  have kb := hC.1.2.1
  have e1 : nI i + 1 = nI (i + 1) := nI_add i 1
  have c1 : (nI (i + 1)).toNatClampNeg = i + 1 := nIc (by omega)
  have i1 : inb (nI (i + 1)) n = True := nIb (by omega) (by omega)
  have x1 := xa (i + 1) (by omega)
  have e2 : nI i + 2 = nI (i + 2) := nI_add i 2
  have c2 : (nI (i + 2)).toNatClampNeg = i + 2 := nIc (by omega)
  have i2 : inb (nI (i + 2)) n = True := nIb (by omega) (by omega)
  have x2 := xa (i + 2) (by omega)
  simp only [v251_533, v251_534, v251_535, v251_536, v251_537, v251_538, v251_539, v251_540, v251_541, v251_542, v251_543, v251_544, e1, c1, i1, e2, c2, i2, x1, x2, ka, na, kb, true_and, or_true, and_self]
  refine k60 hC hW _ _ (fun h1 q1 hC1 => ?_)
  have hR1 := hR.cw hW q1
  have km := hR1.2.1.k0
  have ka1 : tbK (gK h1 ar) = true := by rw [q1.k]; exact ka
  have na1 : gN h1 ar = n := q1.n.trans na
  have y1 : gI h1 ar (i + 1) = xs (i + 1) := (q1.i (fun z => by unfold CW at z; omega)).trans x1
  have y2 : gI h1 ar (i + 2) = xs (i + 2) := (q1.i (fun z => by unfold CW at z; omega)).trans x2
  simp only [pu_s, v251_547, v251_548, v251_549, v251_550, v251_551, v251_552, v251_553, v251_554, v251_555, v251_556, v251_557, v251_558, e1, c1, i1, e2, c2, i2, y1, y2, ka1, na1, km, true_and, or_true, and_self]
  refine k147 hR1 hW _ _ (fun h2 u2 q2 hR2 => ?_)
  have hW2 : WF (oSay A (xs (i + 1)) (xs (i + 2))).1 := by unfold oSay; first | exact hW | (split <;> first | exact hW | (split <;> first | exact hW | (split <;> first | exact hW | (split <;> first | exact hW | (split <;> exact hW)))))
  have hC2 := hC1.ag hW2 q2.1
  simp only [pu_s, v251_561, reduceIte]
  exact hN h2 u2 _ hC2 hR2 hW2 ((Ag.of q1 (fun a j z => z.1)).tr (q2.1.mo (by omega))) (by have := q2.2.2.1; rw [q1.2.2.1] at this; exact this) (by have := q2.2.2.2; rw [q1.2.2.2.1] at this; exact this)
theorem lc_7 (hL : LH b ar n i xs u A h) (hN : LN b ar i h K) : V 251 566 [.ref ar, .ref b, .ref (b + 138), .int (nI i)] [] h K := by
  obtain ⟨hC, hR, hW, har, hi, hn, ka, na, xa⟩ := hL
  have kb := hC.1.2.1
  have e1 : nI i + 1 = nI (i + 1) := nI_add i 1
  have c1 : (nI (i + 1)).toNatClampNeg = i + 1 := nIc (by omega)
  have i1 : inb (nI (i + 1)) n = True := nIb (by omega) (by omega)
  have x1 := xa (i + 1) (by omega)
  have e2 : nI i + 2 = nI (i + 2) := nI_add i 2
  have c2 : (nI (i + 2)).toNatClampNeg = i + 2 := nIc (by omega)
  have i2 : inb (nI (i + 2)) n = True := nIb (by omega) (by omega)
  have x2 := xa (i + 2) (by omega)
  have e3 : nI i + 3 = nI (i + 3) := nI_add i 3
  have c3 : (nI (i + 3)).toNatClampNeg = i + 3 := nIc (by omega)
  have i3 : inb (nI (i + 3)) n = True := nIb (by omega) (by omega)
  have x3 := xa (i + 3) (by omega)
  have e4 : nI i + 4 = nI (i + 4) := nI_add i 4
  have c4 : (nI (i + 4)).toNatClampNeg = i + 4 := nIc (by omega)
  have i4 : inb (nI (i + 4)) n = True := nIb (by omega) (by omega)
  have x4 := xa (i + 4) (by omega)
  have e5 : nI i + 5 = nI (i + 5) := nI_add i 5
  have c5 : (nI (i + 5)).toNatClampNeg = i + 5 := nIc (by omega)
  have i5 : inb (nI (i + 5)) n = True := nIb (by omega) (by omega)
  have x5 := xa (i + 5) (by omega)
  simp only [v251_566, v251_567, v251_568, v251_569, v251_570, v251_571, v251_572, v251_573, v251_574, v251_575, v251_576, v251_577, v251_578, v251_579, v251_580, v251_581, v251_582, v251_583, v251_584, v251_585, v251_586, v251_587, v251_588, v251_589, v251_590, v251_591, v251_592, e1, c1, i1, e2, c2, i2, e3, c3, i3, e4, c4, i4, e5, c5, i5, x1, x2, x3, x4, x5, ka, na, kb, true_and, or_true, and_self]
  refine k61 hC hW _ _ _ _ _ (fun h1 q1 hC1 => ?_)
  have hR1 := hR.cw hW q1
  have km := hR1.2.1.k0
  have ka1 : tbK (gK h1 ar) = true := by rw [q1.k]; exact ka
  have na1 : gN h1 ar = n := q1.n.trans na
  have y1 : gI h1 ar (i + 1) = xs (i + 1) := (q1.i (fun z => by unfold CW at z; omega)).trans x1
  have y2 : gI h1 ar (i + 2) = xs (i + 2) := (q1.i (fun z => by unfold CW at z; omega)).trans x2
  have y3 : gI h1 ar (i + 3) = xs (i + 3) := (q1.i (fun z => by unfold CW at z; omega)).trans x3
  have y4 : gI h1 ar (i + 4) = xs (i + 4) := (q1.i (fun z => by unfold CW at z; omega)).trans x4
  have y5 : gI h1 ar (i + 5) = xs (i + 5) := (q1.i (fun z => by unfold CW at z; omega)).trans x5
  simp only [pu_s, v251_595, v251_596, v251_597, v251_598, v251_599, v251_600, v251_601, v251_602, v251_603, v251_604, v251_605, v251_606, v251_607, v251_608, v251_609, v251_610, v251_611, v251_612, v251_613, v251_614, v251_615, v251_616, v251_617, v251_618, v251_619, v251_620, v251_621, e1, c1, i1, e2, c2, i2, e3, c3, i3, e4, c4, i4, e5, c5, i5, y1, y2, y3, y4, y5, ka1, na1, km, true_and, or_true, and_self]
  refine k149 hR1 hW _ _ _ _ _ (fun h2 u2 q2 hR2 => ?_)
  have hC2 := hC1.ag (wThg hW _ _ _ _ _) q2.1
  simp only [pu_s, v251_624, reduceIte]
  exact hN h2 u2 _ hC2 hR2 (wThg hW _ _ _ _ _) ((Ag.of q1 (fun a j z => z.1)).tr (q2.1.mo (by omega))) (by have := q2.2.2.1; rw [q1.2.2.1] at this; exact this) (by have := q2.2.2.2; rw [q1.2.2.2.1] at this; exact this)
theorem lc_8 (hL : LH b ar n i xs u A h) (hN : LN b ar i h K) : V 251 629 [.ref ar, .ref b, .ref (b + 138), .int (nI i)] [] h K := by
  obtain ⟨hC, hR, hW, har, hi, hn, ka, na, xa⟩ := hL
  have kb := hC.1.2.1
  have e1 : nI i + 1 = nI (i + 1) := nI_add i 1
  have c1 : (nI (i + 1)).toNatClampNeg = i + 1 := nIc (by omega)
  have i1 : inb (nI (i + 1)) n = True := nIb (by omega) (by omega)
  have x1 := xa (i + 1) (by omega)
  have e2 : nI i + 2 = nI (i + 2) := nI_add i 2
  have c2 : (nI (i + 2)).toNatClampNeg = i + 2 := nIc (by omega)
  have i2 : inb (nI (i + 2)) n = True := nIb (by omega) (by omega)
  have x2 := xa (i + 2) (by omega)
  have e3 : nI i + 3 = nI (i + 3) := nI_add i 3
  have c3 : (nI (i + 3)).toNatClampNeg = i + 3 := nIc (by omega)
  have i3 : inb (nI (i + 3)) n = True := nIb (by omega) (by omega)
  have x3 := xa (i + 3) (by omega)
  simp only [v251_629, v251_630, v251_631, v251_632, v251_633, v251_634, v251_635, v251_636, v251_637, v251_638, v251_639, v251_640, v251_641, v251_642, v251_643, v251_644, v251_645, e1, c1, i1, e2, c2, i2, e3, c3, i3, x1, x2, x3, ka, na, kb, true_and, or_true, and_self]
  refine k62 hC hW _ _ _ (fun h1 q1 hC1 => ?_)
  have hR1 := hR.cw hW q1
  have km := hR1.2.1.k0
  have ka1 : tbK (gK h1 ar) = true := by rw [q1.k]; exact ka
  have na1 : gN h1 ar = n := q1.n.trans na
  have y1 : gI h1 ar (i + 1) = xs (i + 1) := (q1.i (fun z => by unfold CW at z; omega)).trans x1
  have y2 : gI h1 ar (i + 2) = xs (i + 2) := (q1.i (fun z => by unfold CW at z; omega)).trans x2
  have y3 : gI h1 ar (i + 3) = xs (i + 3) := (q1.i (fun z => by unfold CW at z; omega)).trans x3
  simp only [pu_s, v251_648, v251_649, v251_650, v251_651, v251_652, v251_653, v251_654, v251_655, v251_656, v251_657, v251_658, v251_659, v251_660, v251_661, v251_662, v251_663, v251_664, e1, c1, i1, e2, c2, i2, e3, c3, i3, y1, y2, y3, ka1, na1, km, true_and, or_true, and_self]
  refine k152 hR1 hW _ _ _ (fun h2 u2 q2 hR2 => ?_)
  have hC2 := hC1.ag (wByr hW _ _ _) q2.1
  simp only [pu_s, v251_667, reduceIte]
  exact hN h2 u2 _ hC2 hR2 (wByr hW _ _ _) ((Ag.of q1 (fun a j z => z.1)).tr (q2.1.mo (by omega))) (by have := q2.2.2.1; rw [q1.2.2.1] at this; exact this) (by have := q2.2.2.2; rw [q1.2.2.2.1] at this; exact this)
theorem lc_9 (hL : LH b ar n i xs u A h) (hN : LN b ar i h K) : V 251 672 [.ref ar, .ref b, .ref (b + 138), .int (nI i)] [] h K := by
  obtain ⟨hC, hR, hW, har, hi, hn, ka, na, xa⟩ := hL
  have kb := hC.1.2.1
  have e1 : nI i + 1 = nI (i + 1) := nI_add i 1
  have c1 : (nI (i + 1)).toNatClampNeg = i + 1 := nIc (by omega)
  have i1 : inb (nI (i + 1)) n = True := nIb (by omega) (by omega)
  have x1 := xa (i + 1) (by omega)
  have e2 : nI i + 2 = nI (i + 2) := nI_add i 2
  have c2 : (nI (i + 2)).toNatClampNeg = i + 2 := nIc (by omega)
  have i2 : inb (nI (i + 2)) n = True := nIb (by omega) (by omega)
  have x2 := xa (i + 2) (by omega)
  simp only [v251_672, v251_673, v251_674, v251_675, v251_676, v251_677, v251_678, v251_679, v251_680, v251_681, v251_682, v251_683, e1, c1, i1, e2, c2, i2, x1, x2, ka, na, kb, true_and, or_true, and_self]
  refine k63 hC hW _ _ (fun h1 q1 hC1 => ?_)
  have hR1 := hR.cw hW q1
  have km := hR1.2.1.k0
  have ka1 : tbK (gK h1 ar) = true := by rw [q1.k]; exact ka
  have na1 : gN h1 ar = n := q1.n.trans na
  have y1 : gI h1 ar (i + 1) = xs (i + 1) := (q1.i (fun z => by unfold CW at z; omega)).trans x1
  have y2 : gI h1 ar (i + 2) = xs (i + 2) := (q1.i (fun z => by unfold CW at z; omega)).trans x2
  simp only [pu_s, v251_686, v251_687, v251_688, v251_689, v251_690, v251_691, v251_692, v251_693, v251_694, v251_695, v251_696, v251_697, e1, c1, i1, e2, c2, i2, y1, y2, ka1, na1, km, true_and, or_true, and_self]
  refine k153 hR1 hW _ _ (fun h2 u2 q2 hR2 => ?_)
  have hC2 := hC1.ag (wBys hW _ _) q2.1
  simp only [pu_s, v251_700, reduceIte]
  exact hN h2 u2 _ hC2 hR2 (wBys hW _ _) ((Ag.of q1 (fun a j z => z.1)).tr (q2.1.mo (by omega))) (by have := q2.2.2.1; rw [q1.2.2.1] at this; exact this) (by have := q2.2.2.2; rw [q1.2.2.2.1] at this; exact this)
theorem lc_10 (hL : LH b ar n i xs u A h) (hN : LN b ar i h K) : V 251 705 [.ref ar, .ref b, .ref (b + 138), .int (nI i)] [] h K := by
  obtain ⟨hC, hR, hW, har, hi, hn, ka, na, xa⟩ := hL
  have kb := hC.1.2.1
  have e1 : nI i + 1 = nI (i + 1) := nI_add i 1
  have c1 : (nI (i + 1)).toNatClampNeg = i + 1 := nIc (by omega)
  have i1 : inb (nI (i + 1)) n = True := nIb (by omega) (by omega)
  have x1 := xa (i + 1) (by omega)
  have e2 : nI i + 2 = nI (i + 2) := nI_add i 2
  have c2 : (nI (i + 2)).toNatClampNeg = i + 2 := nIc (by omega)
  have i2 : inb (nI (i + 2)) n = True := nIb (by omega) (by omega)
  have x2 := xa (i + 2) (by omega)
  have e3 : nI i + 3 = nI (i + 3) := nI_add i 3
  have c3 : (nI (i + 3)).toNatClampNeg = i + 3 := nIc (by omega)
  have i3 : inb (nI (i + 3)) n = True := nIb (by omega) (by omega)
  have x3 := xa (i + 3) (by omega)
  simp only [v251_705, v251_706, v251_707, v251_708, v251_709, v251_710, v251_711, v251_712, v251_713, v251_714, v251_715, v251_716, v251_717, v251_718, v251_719, v251_720, v251_721, e1, c1, i1, e2, c2, i2, e3, c3, i3, x1, x2, x3, ka, na, kb, true_and, or_true, and_self]
  refine k64 hC hW _ _ _ (fun h1 q1 hC1 => ?_)
  have hR1 := hR.cw hW q1
  have km := hR1.2.1.k0
  have ka1 : tbK (gK h1 ar) = true := by rw [q1.k]; exact ka
  have na1 : gN h1 ar = n := q1.n.trans na
  have y1 : gI h1 ar (i + 1) = xs (i + 1) := (q1.i (fun z => by unfold CW at z; omega)).trans x1
  have y2 : gI h1 ar (i + 2) = xs (i + 2) := (q1.i (fun z => by unfold CW at z; omega)).trans x2
  have y3 : gI h1 ar (i + 3) = xs (i + 3) := (q1.i (fun z => by unfold CW at z; omega)).trans x3
  simp only [pu_s, v251_724, v251_725, v251_726, v251_727, v251_728, v251_729, v251_730, v251_731, v251_732, v251_733, v251_734, v251_735, v251_736, v251_737, v251_738, v251_739, v251_740, e1, c1, i1, e2, c2, i2, e3, c3, i3, y1, y2, y3, ka1, na1, km, true_and, or_true, and_self]
  refine k155 hR1 hW _ _ _ (fun h2 u2 q2 hR2 => ?_)
  have hC2 := hC1.ag (wChg hW _ _ _) q2.1
  simp only [pu_s, v251_743, reduceIte]
  exact hN h2 u2 _ hC2 hR2 (wChg hW _ _ _) ((Ag.of q1 (fun a j z => z.1)).tr (q2.1.mo (by omega))) (by have := q2.2.2.1; rw [q1.2.2.1] at this; exact this) (by have := q2.2.2.2; rw [q1.2.2.2.1] at this; exact this)
theorem lc_11 (hL : LH b ar n i xs u A h) (hN : LN b ar i h K) : V 251 748 [.ref ar, .ref b, .ref (b + 138), .int (nI i)] [] h K := by
  obtain ⟨hC, hR, hW, har, hi, hn, ka, na, xa⟩ := hL
  have kb := hC.1.2.1
  have e1 : nI i + 1 = nI (i + 1) := nI_add i 1
  have c1 : (nI (i + 1)).toNatClampNeg = i + 1 := nIc (by omega)
  have i1 : inb (nI (i + 1)) n = True := nIb (by omega) (by omega)
  have x1 := xa (i + 1) (by omega)
  have e2 : nI i + 2 = nI (i + 2) := nI_add i 2
  have c2 : (nI (i + 2)).toNatClampNeg = i + 2 := nIc (by omega)
  have i2 : inb (nI (i + 2)) n = True := nIb (by omega) (by omega)
  have x2 := xa (i + 2) (by omega)
  simp only [v251_748, v251_749, v251_750, v251_751, v251_752, v251_753, v251_754, v251_755, v251_756, v251_757, v251_758, v251_759, e1, c1, i1, e2, c2, i2, x1, x2, ka, na, kb, true_and, or_true, and_self]
  refine k65 hC hW _ _ (fun h1 q1 hC1 => ?_)
  have hR1 := hR.cw hW q1
  have km := hR1.2.1.k0
  have ka1 : tbK (gK h1 ar) = true := by rw [q1.k]; exact ka
  have na1 : gN h1 ar = n := q1.n.trans na
  have y1 : gI h1 ar (i + 1) = xs (i + 1) := (q1.i (fun z => by unfold CW at z; omega)).trans x1
  have y2 : gI h1 ar (i + 2) = xs (i + 2) := (q1.i (fun z => by unfold CW at z; omega)).trans x2
  simp only [pu_s, v251_762, v251_763, v251_764, v251_765, v251_766, v251_767, v251_768, v251_769, v251_770, v251_771, v251_772, v251_773, e1, c1, i1, e2, c2, i2, y1, y2, ka1, na1, km, true_and, or_true, and_self]
  refine k158 hR1 hW _ _ (fun h2 u2 q2 hR2 => ?_)
  have hC2 := hC1.ag (wAsk hW _ _) q2.1
  simp only [pu_s, v251_776, reduceIte]
  exact hN h2 u2 _ hC2 hR2 (wAsk hW _ _) ((Ag.of q1 (fun a j z => z.1)).tr (q2.1.mo (by omega))) (by have := q2.2.2.1; rw [q1.2.2.1] at this; exact this) (by have := q2.2.2.2; rw [q1.2.2.2.1] at this; exact this)
theorem lc_12 (hL : LH b ar n i xs u A h) (hN : LN b ar i h K) : V 251 781 [.ref ar, .ref b, .ref (b + 138), .int (nI i)] [] h K := by
  obtain ⟨hC, hR, hW, har, hi, hn, ka, na, xa⟩ := hL
  have kb := hC.1.2.1
  have e1 : nI i + 1 = nI (i + 1) := nI_add i 1
  have c1 : (nI (i + 1)).toNatClampNeg = i + 1 := nIc (by omega)
  have i1 : inb (nI (i + 1)) n = True := nIb (by omega) (by omega)
  have x1 := xa (i + 1) (by omega)
  simp only [v251_781, v251_782, v251_783, v251_784, v251_785, v251_786, v251_787, e1, c1, i1, x1, ka, na, kb, true_and, or_true, and_self]
  refine k66 hC hW _ (fun h1 q1 hC1 => ?_)
  have hR1 := hR.cw hW q1
  have km := hR1.2.1.k0
  have ka1 : tbK (gK h1 ar) = true := by rw [q1.k]; exact ka
  have na1 : gN h1 ar = n := q1.n.trans na
  have y1 : gI h1 ar (i + 1) = xs (i + 1) := (q1.i (fun z => by unfold CW at z; omega)).trans x1
  simp only [pu_s, v251_790, v251_791, v251_792, v251_793, v251_794, v251_795, v251_796, e1, c1, i1, y1, ka1, na1, km, true_and, or_true, and_self]
  refine k159 hR1 hW _ (fun h2 u2 q2 hR2 => ?_)
  have hC2 := hC1.ag (wFed hW _) q2.1
  simp only [pu_s, v251_799, reduceIte]
  exact hN h2 u2 _ hC2 hR2 (wFed hW _) ((Ag.of q1 (fun a j z => z.1)).tr (q2.1.mo (by omega))) (by have := q2.2.2.1; rw [q1.2.2.1] at this; exact this) (by have := q2.2.2.2; rw [q1.2.2.2.1] at this; exact this)
theorem lc_13 (hL : LH b ar n i xs u A h) (hN : LN b ar i h K) : V 251 804 [.ref ar, .ref b, .ref (b + 138), .int (nI i)] [] h K := by
  obtain ⟨hC, hR, hW, har, hi, hn, ka, na, xa⟩ := hL
  have kb := hC.1.2.1
  simp only [v251_804, v251_805, kb, true_and, or_true, and_self]
  refine k67 hC hW (fun h1 q1 hC1 => ?_)
  have hR1 := hR.cw hW q1
  have km := hR1.2.1.k0
  simp only [pu_s, v251_808, v251_809, km, true_and, or_true, and_self]
  refine k160 hR1 hW (fun h2 u2 q2 hR2 => ?_)
  have hC2 := hC1.ag (wWip hW) q2.1
  simp only [pu_s, v251_812, reduceIte]
  exact hN h2 u2 _ hC2 hR2 (wWip hW) ((Ag.of q1 (fun a j z => z.1)).tr (q2.1.mo (by omega))) (by have := q2.2.2.1; rw [q1.2.2.1] at this; exact this) (by have := q2.2.2.2; rw [q1.2.2.2.1] at this; exact this)
theorem lc_14 (hL : LH b ar n i xs u A h) (hN : LN b ar i h K) : V 251 817 [.ref ar, .ref b, .ref (b + 138), .int (nI i)] [] h K := by
  obtain ⟨hC, hR, hW, har, hi, hn, ka, na, xa⟩ := hL
  have kb := hC.1.2.1
  simp only [v251_817, v251_818, kb, true_and, or_true, and_self]
  refine k68 hC hW (fun h1 q1 hC1 => ?_)
  have hR1 := hR.cw hW q1
  have km := hR1.2.1.k0
  simp only [pu_s, v251_821, v251_822, km, true_and, or_true, and_self]
  refine k173 (c := b) hC1.1.1 (by omega) hR1 hW (fun h2 u2 q2 hR2 => ?_)
  have hC2 := hC1.ag (wSal hW) q2.1
  simp only [pu_s, v251_825, reduceIte]
  exact hN h2 u2 _ hC2 hR2 (wSal hW) ((Ag.of q1 (fun a j z => z.1)).tr (q2.1.mo (by omega))) (by have := q2.2.2.1; rw [q1.2.2.1] at this; exact this) (by have := q2.2.2.2; rw [q1.2.2.2.1] at this; exact this)
theorem lc_15 (hL : LH b ar n i xs u A h) (hN : LN b ar i h K) : V 251 830 [.ref ar, .ref b, .ref (b + 138), .int (nI i)] [] h K := by
  obtain ⟨hC, hR, hW, har, hi, hn, ka, na, xa⟩ := hL
  have kb := hC.1.2.1
  have e1 : nI i + 1 = nI (i + 1) := nI_add i 1
  have c1 : (nI (i + 1)).toNatClampNeg = i + 1 := nIc (by omega)
  have i1 : inb (nI (i + 1)) n = True := nIb (by omega) (by omega)
  have x1 := xa (i + 1) (by omega)
  have e2 : nI i + 2 = nI (i + 2) := nI_add i 2
  have c2 : (nI (i + 2)).toNatClampNeg = i + 2 := nIc (by omega)
  have i2 : inb (nI (i + 2)) n = True := nIb (by omega) (by omega)
  have x2 := xa (i + 2) (by omega)
  simp only [v251_830, v251_831, v251_832, v251_833, v251_834, v251_835, v251_836, v251_837, v251_838, v251_839, v251_840, v251_841, e1, c1, i1, e2, c2, i2, x1, x2, ka, na, kb, true_and, or_true, and_self]
  refine k69 hC hW _ _ (fun h1 q1 hC1 => ?_)
  have hR1 := hR.cw hW q1
  have km := hR1.2.1.k0
  have ka1 : tbK (gK h1 ar) = true := by rw [q1.k]; exact ka
  have na1 : gN h1 ar = n := q1.n.trans na
  have y1 : gI h1 ar (i + 1) = xs (i + 1) := (q1.i (fun z => by unfold CW at z; omega)).trans x1
  have y2 : gI h1 ar (i + 2) = xs (i + 2) := (q1.i (fun z => by unfold CW at z; omega)).trans x2
  simp only [pu_s, v251_844, v251_845, v251_846, v251_847, v251_848, v251_849, v251_850, v251_851, v251_852, v251_853, v251_854, v251_855, e1, c1, i1, e2, c2, i2, y1, y2, ka1, na1, km, true_and, or_true, and_self]
  refine k174 hR1 hW _ _ (fun h2 u2 q2 hR2 => ?_)
  have hW2 : WF (oTOf A (xs (i + 1)) (xs (i + 2))).1 := by unfold oTOf; first | exact hW | (split <;> first | exact hW | (split <;> first | exact hW | (split <;> first | exact hW | (split <;> first | exact hW | (split <;> exact hW)))))
  have hC2 := hC1.ag hW2 q2.1
  simp only [pu_s, v251_858, reduceIte]
  exact hN h2 u2 _ hC2 hR2 hW2 ((Ag.of q1 (fun a j z => z.1)).tr (q2.1.mo (by omega))) (by have := q2.2.2.1; rw [q1.2.2.1] at this; exact this) (by have := q2.2.2.2; rw [q1.2.2.2.1] at this; exact this)
theorem lc_16 (hL : LH b ar n i xs u A h) (hN : LN b ar i h K) : V 251 863 [.ref ar, .ref b, .ref (b + 138), .int (nI i)] [] h K := by
  obtain ⟨hC, hR, hW, har, hi, hn, ka, na, xa⟩ := hL
  have kb := hC.1.2.1
  have e1 : nI i + 1 = nI (i + 1) := nI_add i 1
  have c1 : (nI (i + 1)).toNatClampNeg = i + 1 := nIc (by omega)
  have i1 : inb (nI (i + 1)) n = True := nIb (by omega) (by omega)
  have x1 := xa (i + 1) (by omega)
  have e2 : nI i + 2 = nI (i + 2) := nI_add i 2
  have c2 : (nI (i + 2)).toNatClampNeg = i + 2 := nIc (by omega)
  have i2 : inb (nI (i + 2)) n = True := nIb (by omega) (by omega)
  have x2 := xa (i + 2) (by omega)
  simp only [v251_863, v251_864, v251_865, v251_866, v251_867, v251_868, v251_869, v251_870, v251_871, v251_872, v251_873, v251_874, e1, c1, i1, e2, c2, i2, x1, x2, ka, na, kb, true_and, or_true, and_self]
  refine k70 hC hW _ _ (fun h1 q1 hC1 => ?_)
  have hR1 := hR.cw hW q1
  have km := hR1.2.1.k0
  have ka1 : tbK (gK h1 ar) = true := by rw [q1.k]; exact ka
  have na1 : gN h1 ar = n := q1.n.trans na
  have y1 : gI h1 ar (i + 1) = xs (i + 1) := (q1.i (fun z => by unfold CW at z; omega)).trans x1
  have y2 : gI h1 ar (i + 2) = xs (i + 2) := (q1.i (fun z => by unfold CW at z; omega)).trans x2
  simp only [pu_s, v251_877, v251_878, v251_879, v251_880, v251_881, v251_882, v251_883, v251_884, v251_885, v251_886, v251_887, v251_888, e1, c1, i1, e2, c2, i2, y1, y2, ka1, na1, km, true_and, or_true, and_self]
  refine k175 hR1 hW _ _ (fun h2 u2 q2 hR2 => ?_)
  have hW2 : WF (oBOf A (xs (i + 1)) (xs (i + 2))).1 := by unfold oBOf; first | exact hW | (split <;> first | exact hW | (split <;> first | exact hW | (split <;> first | exact hW | (split <;> first | exact hW | (split <;> exact hW)))))
  have hC2 := hC1.ag hW2 q2.1
  simp only [pu_s, v251_891, reduceIte]
  exact hN h2 u2 _ hC2 hR2 hW2 ((Ag.of q1 (fun a j z => z.1)).tr (q2.1.mo (by omega))) (by have := q2.2.2.1; rw [q1.2.2.1] at this; exact this) (by have := q2.2.2.2; rw [q1.2.2.2.1] at this; exact this)
theorem lc_17 (hL : LH b ar n i xs u A h) (hN : LN b ar i h K) : V 251 896 [.ref ar, .ref b, .ref (b + 138), .int (nI i)] [] h K := by
  obtain ⟨hC, hR, hW, har, hi, hn, ka, na, xa⟩ := hL
  have kb := hC.1.2.1
  have e1 : nI i + 1 = nI (i + 1) := nI_add i 1
  have c1 : (nI (i + 1)).toNatClampNeg = i + 1 := nIc (by omega)
  have i1 : inb (nI (i + 1)) n = True := nIb (by omega) (by omega)
  have x1 := xa (i + 1) (by omega)
  have e2 : nI i + 2 = nI (i + 2) := nI_add i 2
  have c2 : (nI (i + 2)).toNatClampNeg = i + 2 := nIc (by omega)
  have i2 : inb (nI (i + 2)) n = True := nIb (by omega) (by omega)
  have x2 := xa (i + 2) (by omega)
  simp only [v251_896, v251_897, v251_898, v251_899, v251_900, v251_901, v251_902, v251_903, v251_904, v251_905, v251_906, v251_907, e1, c1, i1, e2, c2, i2, x1, x2, ka, na, kb, true_and, or_true, and_self]
  refine k71 hC hW _ _ (fun h1 q1 hC1 => ?_)
  have hR1 := hR.cw hW q1
  have km := hR1.2.1.k0
  have ka1 : tbK (gK h1 ar) = true := by rw [q1.k]; exact ka
  have na1 : gN h1 ar = n := q1.n.trans na
  have y1 : gI h1 ar (i + 1) = xs (i + 1) := (q1.i (fun z => by unfold CW at z; omega)).trans x1
  have y2 : gI h1 ar (i + 2) = xs (i + 2) := (q1.i (fun z => by unfold CW at z; omega)).trans x2
  simp only [pu_s, v251_910, v251_911, v251_912, v251_913, v251_914, v251_915, v251_916, v251_917, v251_918, v251_919, v251_920, v251_921, e1, c1, i1, e2, c2, i2, y1, y2, ka1, na1, km, true_and, or_true, and_self]
  refine k177 hR1 hW _ _ (fun h2 u2 q2 hR2 => ?_)
  have hW2 : WF (oPrc A (xs (i + 1)) (xs (i + 2))).1 := by unfold oPrc; first | exact hW | (split <;> first | exact hW | (split <;> first | exact hW | (split <;> first | exact hW | (split <;> first | exact hW | (split <;> exact hW)))))
  have hC2 := hC1.ag hW2 q2.1
  simp only [pu_s, v251_924, reduceIte]
  exact hN h2 u2 _ hC2 hR2 hW2 ((Ag.of q1 (fun a j z => z.1)).tr (q2.1.mo (by omega))) (by have := q2.2.2.1; rw [q1.2.2.1] at this; exact this) (by have := q2.2.2.2; rw [q1.2.2.2.1] at this; exact this)
theorem lc_18 (hL : LH b ar n i xs u A h) (hN : LN b ar i h K) : V 251 929 [.ref ar, .ref b, .ref (b + 138), .int (nI i)] [] h K := by
  obtain ⟨hC, hR, hW, har, hi, hn, ka, na, xa⟩ := hL
  have kb := hC.1.2.1
  have e1 : nI i + 1 = nI (i + 1) := nI_add i 1
  have c1 : (nI (i + 1)).toNatClampNeg = i + 1 := nIc (by omega)
  have i1 : inb (nI (i + 1)) n = True := nIb (by omega) (by omega)
  have x1 := xa (i + 1) (by omega)
  simp only [v251_929, v251_930, v251_931, v251_932, v251_933, v251_934, v251_935, e1, c1, i1, x1, ka, na, kb, true_and, or_true, and_self]
  refine k72 hC hW _ (fun h1 q1 hC1 => ?_)
  have hR1 := hR.cw hW q1
  have km := hR1.2.1.k0
  have ka1 : tbK (gK h1 ar) = true := by rw [q1.k]; exact ka
  have na1 : gN h1 ar = n := q1.n.trans na
  have y1 : gI h1 ar (i + 1) = xs (i + 1) := (q1.i (fun z => by unfold CW at z; omega)).trans x1
  simp only [pu_s, v251_938, v251_939, v251_940, v251_941, v251_942, v251_943, v251_944, e1, c1, i1, y1, ka1, na1, km, true_and, or_true, and_self]
  refine k180 hR1 hW _ (fun h2 u2 q2 hR2 => ?_)
  have hW2 : WF (oOn A (xs (i + 1))).1 := by unfold oOn; first | exact hW | (split <;> first | exact hW | (split <;> first | exact hW | (split <;> first | exact hW | (split <;> first | exact hW | (split <;> exact hW)))))
  have hC2 := hC1.ag hW2 q2.1
  simp only [pu_s, v251_947, reduceIte]
  exact hN h2 u2 _ hC2 hR2 hW2 ((Ag.of q1 (fun a j z => z.1)).tr (q2.1.mo (by omega))) (by have := q2.2.2.1; rw [q1.2.2.1] at this; exact this) (by have := q2.2.2.2; rw [q1.2.2.2.1] at this; exact this)
theorem lc_19 (hL : LH b ar n i xs u A h) (hN : LN b ar i h K) : V 251 952 [.ref ar, .ref b, .ref (b + 138), .int (nI i)] [] h K := by
  obtain ⟨hC, hR, hW, har, hi, hn, ka, na, xa⟩ := hL
  have kb := hC.1.2.1
  have e1 : nI i + 1 = nI (i + 1) := nI_add i 1
  have c1 : (nI (i + 1)).toNatClampNeg = i + 1 := nIc (by omega)
  have i1 : inb (nI (i + 1)) n = True := nIb (by omega) (by omega)
  have x1 := xa (i + 1) (by omega)
  have e2 : nI i + 2 = nI (i + 2) := nI_add i 2
  have c2 : (nI (i + 2)).toNatClampNeg = i + 2 := nIc (by omega)
  have i2 : inb (nI (i + 2)) n = True := nIb (by omega) (by omega)
  have x2 := xa (i + 2) (by omega)
  have e3 : nI i + 3 = nI (i + 3) := nI_add i 3
  have c3 : (nI (i + 3)).toNatClampNeg = i + 3 := nIc (by omega)
  have i3 : inb (nI (i + 3)) n = True := nIb (by omega) (by omega)
  have x3 := xa (i + 3) (by omega)
  simp only [v251_952, v251_953, v251_954, v251_955, v251_956, v251_957, v251_958, v251_959, v251_960, v251_961, v251_962, v251_963, v251_964, v251_965, v251_966, v251_967, v251_968, e1, c1, i1, e2, c2, i2, e3, c3, i3, x1, x2, x3, ka, na, kb, true_and, or_true, and_self]
  refine k73 hC hW _ _ _ (fun h1 q1 hC1 => ?_)
  have hR1 := hR.cw hW q1
  have km := hR1.2.1.k0
  have ka1 : tbK (gK h1 ar) = true := by rw [q1.k]; exact ka
  have na1 : gN h1 ar = n := q1.n.trans na
  have y1 : gI h1 ar (i + 1) = xs (i + 1) := (q1.i (fun z => by unfold CW at z; omega)).trans x1
  have y2 : gI h1 ar (i + 2) = xs (i + 2) := (q1.i (fun z => by unfold CW at z; omega)).trans x2
  have y3 : gI h1 ar (i + 3) = xs (i + 3) := (q1.i (fun z => by unfold CW at z; omega)).trans x3
  simp only [pu_s, v251_971, v251_972, v251_973, v251_974, v251_975, v251_976, v251_977, v251_978, v251_979, v251_980, v251_981, v251_982, v251_983, v251_984, v251_985, v251_986, v251_987, e1, c1, i1, e2, c2, i2, e3, c3, i3, y1, y2, y3, ka1, na1, km, true_and, or_true, and_self]
  refine k183 hR1 hW _ _ _ (fun h2 u2 q2 hR2 => ?_)
  have hW2 : WF (oPys A (xs (i + 1)) (xs (i + 2)) (xs (i + 3))).1 := by unfold oPys; first | exact hW | (split <;> first | exact hW | (split <;> first | exact hW | (split <;> first | exact hW | (split <;> first | exact hW | (split <;> exact hW)))))
  have hC2 := hC1.ag hW2 q2.1
  simp only [pu_s, v251_990, reduceIte]
  exact hN h2 u2 _ hC2 hR2 hW2 ((Ag.of q1 (fun a j z => z.1)).tr (q2.1.mo (by omega))) (by have := q2.2.2.1; rw [q1.2.2.1] at this; exact this) (by have := q2.2.2.2; rw [q1.2.2.2.1] at this; exact this)
theorem lc_20 (hL : LH b ar n i xs u A h) (hN : LN b ar i h K) : V 251 995 [.ref ar, .ref b, .ref (b + 138), .int (nI i)] [] h K := by
  obtain ⟨hC, hR, hW, har, hi, hn, ka, na, xa⟩ := hL
  have kb := hC.1.2.1
  have e1 : nI i + 1 = nI (i + 1) := nI_add i 1
  have c1 : (nI (i + 1)).toNatClampNeg = i + 1 := nIc (by omega)
  have i1 : inb (nI (i + 1)) n = True := nIb (by omega) (by omega)
  have x1 := xa (i + 1) (by omega)
  simp only [v251_995, v251_996, v251_997, v251_998, v251_999, v251_1000, v251_1001, e1, c1, i1, x1, ka, na, kb, true_and, or_true, and_self]
  refine k74 hC hW _ (fun h1 q1 hC1 => ?_)
  have hR1 := hR.cw hW q1
  have km := hR1.2.1.k0
  have ka1 : tbK (gK h1 ar) = true := by rw [q1.k]; exact ka
  have na1 : gN h1 ar = n := q1.n.trans na
  have y1 : gI h1 ar (i + 1) = xs (i + 1) := (q1.i (fun z => by unfold CW at z; omega)).trans x1
  simp only [pu_s, v251_1004, v251_1005, v251_1006, v251_1007, v251_1008, v251_1009, v251_1010, e1, c1, i1, y1, ka1, na1, km, true_and, or_true, and_self]
  refine k189 hR1 hW _ (fun h2 u2 q2 hR2 => ?_)
  have hW2 : WF (oBuys A (xs (i + 1))).1 := by unfold oBuys; first | exact hW | (split <;> first | exact hW | (split <;> first | exact hW | (split <;> first | exact hW | (split <;> first | exact hW | (split <;> exact hW)))))
  have hC2 := hC1.ag hW2 q2.1
  simp only [pu_s, v251_1013, reduceIte]
  exact hN h2 u2 _ hC2 hR2 hW2 ((Ag.of q1 (fun a j z => z.1)).tr (q2.1.mo (by omega))) (by have := q2.2.2.1; rw [q1.2.2.1] at this; exact this) (by have := q2.2.2.2; rw [q1.2.2.2.1] at this; exact this)
theorem lc_21 (hL : LH b ar n i xs u A h) (hN : LN b ar i h K) : V 251 1018 [.ref ar, .ref b, .ref (b + 138), .int (nI i)] [] h K := by
  obtain ⟨hC, hR, hW, har, hi, hn, ka, na, xa⟩ := hL
  have kb := hC.1.2.1
  have e1 : nI i + 1 = nI (i + 1) := nI_add i 1
  have c1 : (nI (i + 1)).toNatClampNeg = i + 1 := nIc (by omega)
  have i1 : inb (nI (i + 1)) n = True := nIb (by omega) (by omega)
  have x1 := xa (i + 1) (by omega)
  simp only [v251_1018, v251_1019, v251_1020, v251_1021, v251_1022, v251_1023, v251_1024, e1, c1, i1, x1, ka, na, kb, true_and, or_true, and_self]
  refine k75 hC hW _ (fun h1 q1 hC1 => ?_)
  have hR1 := hR.cw hW q1
  have km := hR1.2.1.k0
  have ka1 : tbK (gK h1 ar) = true := by rw [q1.k]; exact ka
  have na1 : gN h1 ar = n := q1.n.trans na
  have y1 : gI h1 ar (i + 1) = xs (i + 1) := (q1.i (fun z => by unfold CW at z; omega)).trans x1
  simp only [pu_s, v251_1027, v251_1028, v251_1029, v251_1030, v251_1031, v251_1032, v251_1033, e1, c1, i1, y1, ka1, na1, km, true_and, or_true, and_self]
  refine k190 hR1 hW _ (fun h2 u2 q2 hR2 => ?_)
  have hW2 : WF (oCms A (xs (i + 1))).1 := by unfold oCms; first | exact hW | (split <;> first | exact hW | (split <;> first | exact hW | (split <;> first | exact hW | (split <;> first | exact hW | (split <;> exact hW)))))
  have hC2 := hC1.ag hW2 q2.1
  simp only [pu_s, v251_1036, reduceIte]
  exact hN h2 u2 _ hC2 hR2 hW2 ((Ag.of q1 (fun a j z => z.1)).tr (q2.1.mo (by omega))) (by have := q2.2.2.1; rw [q1.2.2.1] at this; exact this) (by have := q2.2.2.2; rw [q1.2.2.2.1] at this; exact this)
theorem lc_22 (hL : LH b ar n i xs u A h) (hN : LN b ar i h K) : V 251 1041 [.ref ar, .ref b, .ref (b + 138), .int (nI i)] [] h K := by
  obtain ⟨hC, hR, hW, har, hi, hn, ka, na, xa⟩ := hL
  have kb := hC.1.2.1
  have e1 : nI i + 1 = nI (i + 1) := nI_add i 1
  have c1 : (nI (i + 1)).toNatClampNeg = i + 1 := nIc (by omega)
  have i1 : inb (nI (i + 1)) n = True := nIb (by omega) (by omega)
  have x1 := xa (i + 1) (by omega)
  simp only [v251_1041, v251_1042, v251_1043, v251_1044, v251_1045, v251_1046, v251_1047, e1, c1, i1, x1, ka, na, kb, true_and, or_true, and_self]
  refine k76 hC hW _ (fun h1 q1 hC1 => ?_)
  have hR1 := hR.cw hW q1
  have km := hR1.2.1.k0
  have ka1 : tbK (gK h1 ar) = true := by rw [q1.k]; exact ka
  have na1 : gN h1 ar = n := q1.n.trans na
  have y1 : gI h1 ar (i + 1) = xs (i + 1) := (q1.i (fun z => by unfold CW at z; omega)).trans x1
  simp only [pu_s, v251_1050, v251_1051, v251_1052, v251_1053, v251_1054, v251_1055, v251_1056, e1, c1, i1, y1, ka1, na1, km, true_and, or_true, and_self]
  refine k191 hR1 hW _ (fun h2 u2 q2 hR2 => ?_)
  have hW2 : WF (oWho A (xs (i + 1))).1 := by unfold oWho; first | exact hW | (split <;> first | exact hW | (split <;> first | exact hW | (split <;> first | exact hW | (split <;> first | exact hW | (split <;> exact hW)))))
  have hC2 := hC1.ag hW2 q2.1
  simp only [pu_s, v251_1059, reduceIte]
  exact hN h2 u2 _ hC2 hR2 hW2 ((Ag.of q1 (fun a j z => z.1)).tr (q2.1.mo (by omega))) (by have := q2.2.2.1; rw [q1.2.2.1] at this; exact this) (by have := q2.2.2.2; rw [q1.2.2.2.1] at this; exact this)
theorem lc_23 (hL : LH b ar n i xs u A h) (hN : LN b ar i h K) : V 251 1064 [.ref ar, .ref b, .ref (b + 138), .int (nI i)] [] h K := by
  obtain ⟨hC, hR, hW, har, hi, hn, ka, na, xa⟩ := hL
  have kb := hC.1.2.1
  simp only [v251_1064, v251_1065, kb, true_and, or_true, and_self]
  refine k77 hC hW (fun h1 q1 hC1 => ?_)
  have hR1 := hR.cw hW q1
  have km := hR1.2.1.k0
  simp only [pu_s, v251_1068, v251_1069, km, true_and, or_true, and_self]
  refine k192 hR1 hW (fun h2 u2 q2 hR2 => ?_)
  have hC2 := hC1.ag hW q2.1
  simp only [pu_s, v251_1072, reduceIte]
  exact hN h2 u2 _ hC2 hR2 hW ((Ag.of q1 (fun a j z => z.1)).tr (q2.1.mo (by omega))) (by have := q2.2.2.1; rw [q1.2.2.1] at this; exact this) (by have := q2.2.2.2; rw [q1.2.2.2.1] at this; exact this)
theorem lc_24 (hL : LH b ar n i xs u A h) (hN : LN b ar i h K) : V 251 1077 [.ref ar, .ref b, .ref (b + 138), .int (nI i)] [] h K := by
  obtain ⟨hC, hR, hW, har, hi, hn, ka, na, xa⟩ := hL
  have kb := hC.1.2.1
  simp only [v251_1077, v251_1078, kb, true_and, or_true, and_self]
  refine k78 hC hW (fun h1 q1 hC1 => ?_)
  have hR1 := hR.cw hW q1
  have km := hR1.2.1.k0
  simp only [pu_s, v251_1081, v251_1082, km, true_and, or_true, and_self]
  refine k193 hR1 hW (fun h2 u2 q2 hR2 => ?_)
  have hC2 := hC1.ag hW q2.1
  simp only [pu_s, v251_1085, reduceIte]
  exact hN h2 u2 _ hC2 hR2 hW ((Ag.of q1 (fun a j z => z.1)).tr (q2.1.mo (by omega))) (by have := q2.2.2.1; rw [q1.2.2.1] at this; exact this) (by have := q2.2.2.2; rw [q1.2.2.2.1] at this; exact this)
theorem lc_25 (hL : LH b ar n i xs u A h) (hN : LN b ar i h K) : V 251 1090 [.ref ar, .ref b, .ref (b + 138), .int (nI i)] [] h K := by
  obtain ⟨hC, hR, hW, har, hi, hn, ka, na, xa⟩ := hL
  have kb := hC.1.2.1
  simp only [v251_1090, v251_1091, kb, true_and, or_true, and_self]
  refine k79 hC hW (fun h1 q1 hC1 => ?_)
  have hR1 := hR.cw hW q1
  have km := hR1.2.1.k0
  simp only [pu_s, v251_1094, v251_1095, km, true_and, or_true, and_self]
  refine k194 hR1 hW (fun h2 u2 q2 hR2 => ?_)
  have hC2 := hC1.ag hW q2.1
  simp only [pu_s, v251_1098, reduceIte]
  exact hN h2 u2 _ hC2 hR2 hW ((Ag.of q1 (fun a j z => z.1)).tr (q2.1.mo (by omega))) (by have := q2.2.2.1; rw [q1.2.2.1] at this; exact this) (by have := q2.2.2.2; rw [q1.2.2.2.1] at this; exact this)
theorem lc_26 (hL : LH b ar n i xs u A h) (hN : LN b ar i h K) : V 251 1103 [.ref ar, .ref b, .ref (b + 138), .int (nI i)] [] h K := by
  obtain ⟨hC, hR, hW, har, hi, hn, ka, na, xa⟩ := hL
  have kb := hC.1.2.1
  simp only [v251_1103, v251_1104, kb, true_and, or_true, and_self]
  refine k80 hC hW (fun h1 q1 hC1 => ?_)
  have hR1 := hR.cw hW q1
  have km := hR1.2.1.k0
  simp only [pu_s, v251_1107, v251_1108, km, true_and, or_true, and_self]
  refine k195 hR1 hW (fun h2 u2 q2 hR2 => ?_)
  have hC2 := hC1.ag hW q2.1
  simp only [pu_s, v251_1111, reduceIte]
  exact hN h2 u2 _ hC2 hR2 hW ((Ag.of q1 (fun a j z => z.1)).tr (q2.1.mo (by omega))) (by have := q2.2.2.1; rw [q1.2.2.1] at this; exact this) (by have := q2.2.2.2; rw [q1.2.2.2.1] at this; exact this)
theorem lc_27 (hL : LH b ar n i xs u A h) (hN : LN b ar i h K) : V 251 1116 [.ref ar, .ref b, .ref (b + 138), .int (nI i)] [] h K := by
  obtain ⟨hC, hR, hW, har, hi, hn, ka, na, xa⟩ := hL
  have kb := hC.1.2.1
  have e1 : nI i + 1 = nI (i + 1) := nI_add i 1
  have c1 : (nI (i + 1)).toNatClampNeg = i + 1 := nIc (by omega)
  have i1 : inb (nI (i + 1)) n = True := nIb (by omega) (by omega)
  have x1 := xa (i + 1) (by omega)
  simp only [v251_1116, v251_1117, v251_1118, v251_1119, v251_1120, v251_1121, v251_1122, e1, c1, i1, x1, ka, na, kb, true_and, or_true, and_self]
  refine k81 hC hW _ (fun h1 q1 hC1 => ?_)
  have hR1 := hR.cw hW q1
  have km := hR1.2.1.k0
  have ka1 : tbK (gK h1 ar) = true := by rw [q1.k]; exact ka
  have na1 : gN h1 ar = n := q1.n.trans na
  have y1 : gI h1 ar (i + 1) = xs (i + 1) := (q1.i (fun z => by unfold CW at z; omega)).trans x1
  simp only [pu_s, v251_1125, v251_1126, v251_1127, v251_1128, v251_1129, v251_1130, v251_1131, e1, c1, i1, y1, ka1, na1, km, true_and, or_true, and_self]
  refine k197 hR1 hW _ (fun h2 u2 q2 hR2 => ?_)
  have hW2 : WF (oBMk A (xs (i + 1))).1 := by unfold oBMk; first | exact hW | (split <;> first | exact hW | (split <;> first | exact hW | (split <;> first | exact hW | (split <;> first | exact hW | (split <;> exact hW)))))
  have hC2 := hC1.ag hW2 q2.1
  simp only [pu_s, v251_1134, reduceIte]
  exact hN h2 u2 _ hC2 hR2 hW2 ((Ag.of q1 (fun a j z => z.1)).tr (q2.1.mo (by omega))) (by have := q2.2.2.1; rw [q1.2.2.1] at this; exact this) (by have := q2.2.2.2; rw [q1.2.2.2.1] at this; exact this)
theorem lc_28 (hL : LH b ar n i xs u A h) (hN : LN b ar i h K) : V 251 1139 [.ref ar, .ref b, .ref (b + 138), .int (nI i)] [] h K := by
  obtain ⟨hC, hR, hW, har, hi, hn, ka, na, xa⟩ := hL
  have kb := hC.1.2.1
  simp only [v251_1139, v251_1140, kb, true_and, or_true, and_self]
  refine k82 hC hW (fun h1 q1 hC1 => ?_)
  have hR1 := hR.cw hW q1
  have km := hR1.2.1.k0
  simp only [pu_s, v251_1143, v251_1144, km, true_and, or_true, and_self]
  refine k200 hR1 hW (fun h2 u2 q2 hR2 => ?_)
  have hC2 := hC1.ag hW q2.1
  simp only [pu_s, v251_1147, reduceIte]
  exact hN h2 u2 _ hC2 hR2 hW ((Ag.of q1 (fun a j z => z.1)).tr (q2.1.mo (by omega))) (by have := q2.2.2.1; rw [q1.2.2.1] at this; exact this) (by have := q2.2.2.2; rw [q1.2.2.2.1] at this; exact this)
theorem lc_29 (hL : LH b ar n i xs u A h) (hN : LN b ar i h K) : V 251 1152 [.ref ar, .ref b, .ref (b + 138), .int (nI i)] [] h K := by
  obtain ⟨hC, hR, hW, har, hi, hn, ka, na, xa⟩ := hL
  have kb := hC.1.2.1
  have e1 : nI i + 1 = nI (i + 1) := nI_add i 1
  have c1 : (nI (i + 1)).toNatClampNeg = i + 1 := nIc (by omega)
  have i1 : inb (nI (i + 1)) n = True := nIb (by omega) (by omega)
  have x1 := xa (i + 1) (by omega)
  simp only [v251_1152, v251_1153, v251_1154, v251_1155, v251_1156, v251_1157, v251_1158, e1, c1, i1, x1, ka, na, kb, true_and, or_true, and_self]
  refine k83 hC hW _ (fun h1 q1 hC1 => ?_)
  have hR1 := hR.cw hW q1
  have km := hR1.2.1.k0
  have ka1 : tbK (gK h1 ar) = true := by rw [q1.k]; exact ka
  have na1 : gN h1 ar = n := q1.n.trans na
  have y1 : gI h1 ar (i + 1) = xs (i + 1) := (q1.i (fun z => by unfold CW at z; omega)).trans x1
  simp only [pu_s, v251_1161, v251_1162, v251_1163, v251_1164, v251_1165, v251_1166, v251_1167, e1, c1, i1, y1, ka1, na1, km, true_and, or_true, and_self]
  refine k198 hR1 hW _ (fun h2 u2 q2 hR2 => ?_)
  have hW2 : WF (oBFr A (xs (i + 1))).1 := by unfold oBFr; first | exact hW | (split <;> first | exact hW | (split <;> first | exact hW | (split <;> first | exact hW | (split <;> first | exact hW | (split <;> exact hW)))))
  have hC2 := hC1.ag hW2 q2.1
  simp only [pu_s, v251_1170, reduceIte]
  exact hN h2 u2 _ hC2 hR2 hW2 ((Ag.of q1 (fun a j z => z.1)).tr (q2.1.mo (by omega))) (by have := q2.2.2.1; rw [q1.2.2.1] at this; exact this) (by have := q2.2.2.2; rw [q1.2.2.2.1] at this; exact this)
theorem lc_30 (hL : LH b ar n i xs u A h) (hN : LN b ar i h K) : V 251 1175 [.ref ar, .ref b, .ref (b + 138), .int (nI i)] [] h K := by
  obtain ⟨hC, hR, hW, har, hi, hn, ka, na, xa⟩ := hL
  have kb := hC.1.2.1
  simp only [v251_1175, v251_1176, kb, true_and, or_true, and_self]
  refine k84 hC hW (fun h1 q1 hC1 => ?_)
  have hR1 := hR.cw hW q1
  have km := hR1.2.1.k0
  simp only [pu_s, v251_1179, v251_1180, km, true_and, or_true, and_self]
  refine k202 hR1 hW (fun h2 u2 q2 hR2 => ?_)
  have hC2 := hC1.ag hW q2.1
  simp only [pu_s, v251_1183, reduceIte]
  exact hN h2 u2 _ hC2 hR2 hW ((Ag.of q1 (fun a j z => z.1)).tr (q2.1.mo (by omega))) (by have := q2.2.2.1; rw [q1.2.2.1] at this; exact this) (by have := q2.2.2.2; rw [q1.2.2.2.1] at this; exact this)
theorem lc_31 (hL : LH b ar n i xs u A h) (hN : LN b ar i h K) : V 251 1188 [.ref ar, .ref b, .ref (b + 138), .int (nI i)] [] h K := by
  obtain ⟨hC, hR, hW, har, hi, hn, ka, na, xa⟩ := hL
  have kb := hC.1.2.1
  simp only [v251_1188, v251_1189, kb, true_and, or_true, and_self]
  refine k85 hC hW (fun h1 q1 hC1 => ?_)
  have hR1 := hR.cw hW q1
  have km := hR1.2.1.k0
  simp only [pu_s, v251_1192, v251_1193, km, true_and, or_true, and_self]
  refine k201 hR1 hW (fun h2 u2 q2 hR2 => ?_)
  have hC2 := hC1.ag hW q2.1
  simp only [pu_s, v251_1196, reduceIte]
  exact hN h2 u2 _ hC2 hR2 hW ((Ag.of q1 (fun a j z => z.1)).tr (q2.1.mo (by omega))) (by have := q2.2.2.1; rw [q1.2.2.1] at this; exact this) (by have := q2.2.2.2; rw [q1.2.2.2.1] at this; exact this)
theorem lc_32 (hL : LH b ar n i xs u A h) (hN : LN b ar i h K) : V 251 1201 [.ref ar, .ref b, .ref (b + 138), .int (nI i)] [] h K := by
  obtain ⟨hC, hR, hW, har, hi, hn, ka, na, xa⟩ := hL
  have kb := hC.1.2.1
  have e1 : nI i + 1 = nI (i + 1) := nI_add i 1
  have c1 : (nI (i + 1)).toNatClampNeg = i + 1 := nIc (by omega)
  have i1 : inb (nI (i + 1)) n = True := nIb (by omega) (by omega)
  have x1 := xa (i + 1) (by omega)
  simp only [v251_1201, v251_1202, v251_1203, v251_1204, v251_1205, v251_1206, v251_1207, e1, c1, i1, x1, ka, na, kb, true_and, or_true, and_self]
  refine k86 hC hW _ (fun h1 q1 hC1 => ?_)
  have hR1 := hR.cw hW q1
  have km := hR1.2.1.k0
  have ka1 : tbK (gK h1 ar) = true := by rw [q1.k]; exact ka
  have na1 : gN h1 ar = n := q1.n.trans na
  have y1 : gI h1 ar (i + 1) = xs (i + 1) := (q1.i (fun z => by unfold CW at z; omega)).trans x1
  simp only [pu_s, v251_1210, v251_1211, v251_1212, v251_1213, v251_1214, v251_1215, v251_1216, e1, c1, i1, y1, ka1, na1, km, true_and, or_true, and_self]
  refine k204 hR1 hW _ (fun h2 u2 q2 hR2 => ?_)
  have hW2 : WF (oMkd A (xs (i + 1))).1 := by unfold oMkd; first | exact hW | (split <;> first | exact hW | (split <;> first | exact hW | (split <;> first | exact hW | (split <;> first | exact hW | (split <;> exact hW)))))
  have hC2 := hC1.ag hW2 q2.1
  simp only [pu_s, v251_1219, reduceIte]
  exact hN h2 u2 _ hC2 hR2 hW2 ((Ag.of q1 (fun a j z => z.1)).tr (q2.1.mo (by omega))) (by have := q2.2.2.1; rw [q1.2.2.1] at this; exact this) (by have := q2.2.2.2; rw [q1.2.2.2.1] at this; exact this)
theorem lc_33 (hL : LH b ar n i xs u A h) (hN : LN b ar i h K) : V 251 1224 [.ref ar, .ref b, .ref (b + 138), .int (nI i)] [] h K := by
  obtain ⟨hC, hR, hW, har, hi, hn, ka, na, xa⟩ := hL
  have kb := hC.1.2.1
  have e1 : nI i + 1 = nI (i + 1) := nI_add i 1
  have c1 : (nI (i + 1)).toNatClampNeg = i + 1 := nIc (by omega)
  have i1 : inb (nI (i + 1)) n = True := nIb (by omega) (by omega)
  have x1 := xa (i + 1) (by omega)
  have e2 : nI i + 2 = nI (i + 2) := nI_add i 2
  have c2 : (nI (i + 2)).toNatClampNeg = i + 2 := nIc (by omega)
  have i2 : inb (nI (i + 2)) n = True := nIb (by omega) (by omega)
  have x2 := xa (i + 2) (by omega)
  have e3 : nI i + 3 = nI (i + 3) := nI_add i 3
  have c3 : (nI (i + 3)).toNatClampNeg = i + 3 := nIc (by omega)
  have i3 : inb (nI (i + 3)) n = True := nIb (by omega) (by omega)
  have x3 := xa (i + 3) (by omega)
  simp only [v251_1224, v251_1225, v251_1226, v251_1227, v251_1228, v251_1229, v251_1230, v251_1231, v251_1232, v251_1233, v251_1234, v251_1235, v251_1236, v251_1237, v251_1238, v251_1239, v251_1240, e1, c1, i1, e2, c2, i2, e3, c3, i3, x1, x2, x3, ka, na, kb, true_and, or_true, and_self]
  refine k87 hC hW _ _ _ (fun h1 q1 hC1 => ?_)
  have hR1 := hR.cw hW q1
  have km := hR1.2.1.k0
  have ka1 : tbK (gK h1 ar) = true := by rw [q1.k]; exact ka
  have na1 : gN h1 ar = n := q1.n.trans na
  have y1 : gI h1 ar (i + 1) = xs (i + 1) := (q1.i (fun z => by unfold CW at z; omega)).trans x1
  have y2 : gI h1 ar (i + 2) = xs (i + 2) := (q1.i (fun z => by unfold CW at z; omega)).trans x2
  have y3 : gI h1 ar (i + 3) = xs (i + 3) := (q1.i (fun z => by unfold CW at z; omega)).trans x3
  simp only [pu_s, v251_1243, v251_1244, v251_1245, v251_1246, v251_1247, v251_1248, v251_1249, v251_1250, v251_1251, v251_1252, v251_1253, v251_1254, v251_1255, v251_1256, v251_1257, v251_1258, v251_1259, e1, c1, i1, e2, c2, i2, e3, c3, i3, y1, y2, y3, ka1, na1, km, true_and, or_true, and_self]
  refine k207 hR1 hW _ _ _ (fun h2 u2 q2 hR2 => ?_)
  have hW2 : WF (oOff A (xs (i + 1)) (xs (i + 2)) (xs (i + 3))).1 := by unfold oOff; first | exact hW | (split <;> first | exact hW | (split <;> first | exact hW | (split <;> first | exact hW | (split <;> first | exact hW | (split <;> exact hW)))))
  have hC2 := hC1.ag hW2 q2.1
  simp only [pu_s, v251_1262, reduceIte]
  exact hN h2 u2 _ hC2 hR2 hW2 ((Ag.of q1 (fun a j z => z.1)).tr (q2.1.mo (by omega))) (by have := q2.2.2.1; rw [q1.2.2.1] at this; exact this) (by have := q2.2.2.2; rw [q1.2.2.2.1] at this; exact this)
theorem lc_34 (hL : LH b ar n i xs u A h) (hN : LN b ar i h K) : V 251 1267 [.ref ar, .ref b, .ref (b + 138), .int (nI i)] [] h K := by
  obtain ⟨hC, hR, hW, har, hi, hn, ka, na, xa⟩ := hL
  have kb := hC.1.2.1
  have e1 : nI i + 1 = nI (i + 1) := nI_add i 1
  have c1 : (nI (i + 1)).toNatClampNeg = i + 1 := nIc (by omega)
  have i1 : inb (nI (i + 1)) n = True := nIb (by omega) (by omega)
  have x1 := xa (i + 1) (by omega)
  have e2 : nI i + 2 = nI (i + 2) := nI_add i 2
  have c2 : (nI (i + 2)).toNatClampNeg = i + 2 := nIc (by omega)
  have i2 : inb (nI (i + 2)) n = True := nIb (by omega) (by omega)
  have x2 := xa (i + 2) (by omega)
  simp only [v251_1267, v251_1268, v251_1269, v251_1270, v251_1271, v251_1272, v251_1273, v251_1274, v251_1275, v251_1276, v251_1277, v251_1278, e1, c1, i1, e2, c2, i2, x1, x2, ka, na, kb, true_and, or_true, and_self]
  refine k88 hC hW _ _ (fun h1 q1 hC1 => ?_)
  have hR1 := hR.cw hW q1
  have km := hR1.2.1.k0
  have ka1 : tbK (gK h1 ar) = true := by rw [q1.k]; exact ka
  have na1 : gN h1 ar = n := q1.n.trans na
  have y1 : gI h1 ar (i + 1) = xs (i + 1) := (q1.i (fun z => by unfold CW at z; omega)).trans x1
  have y2 : gI h1 ar (i + 2) = xs (i + 2) := (q1.i (fun z => by unfold CW at z; omega)).trans x2
  simp only [pu_s, v251_1281, v251_1282, v251_1283, v251_1284, v251_1285, v251_1286, v251_1287, v251_1288, v251_1289, v251_1290, v251_1291, v251_1292, e1, c1, i1, e2, c2, i2, y1, y2, ka1, na1, km, true_and, or_true, and_self]
  refine k208 hR1 hW _ _ (fun h2 u2 q2 hR2 => ?_)
  have hW2 : WF (oLst A (xs (i + 1)) (xs (i + 2))).1 := by unfold oLst; first | exact hW | (split <;> first | exact hW | (split <;> first | exact hW | (split <;> first | exact hW | (split <;> first | exact hW | (split <;> exact hW)))))
  have hC2 := hC1.ag hW2 q2.1
  simp only [pu_s, v251_1295, reduceIte]
  exact hN h2 u2 _ hC2 hR2 hW2 ((Ag.of q1 (fun a j z => z.1)).tr (q2.1.mo (by omega))) (by have := q2.2.2.1; rw [q1.2.2.1] at this; exact this) (by have := q2.2.2.2; rw [q1.2.2.2.1] at this; exact this)
theorem lc_35 (hL : LH b ar n i xs u A h) (hN : LN b ar i h K) : V 251 1300 [.ref ar, .ref b, .ref (b + 138), .int (nI i)] [] h K := by
  obtain ⟨hC, hR, hW, har, hi, hn, ka, na, xa⟩ := hL
  have kb := hC.1.2.1
  have e1 : nI i + 1 = nI (i + 1) := nI_add i 1
  have c1 : (nI (i + 1)).toNatClampNeg = i + 1 := nIc (by omega)
  have i1 : inb (nI (i + 1)) n = True := nIb (by omega) (by omega)
  have x1 := xa (i + 1) (by omega)
  simp only [v251_1300, v251_1301, v251_1302, v251_1303, v251_1304, v251_1305, v251_1306, e1, c1, i1, x1, ka, na, kb, true_and, or_true, and_self]
  refine k89 hC hW _ (fun h1 q1 hC1 => ?_)
  have hR1 := hR.cw hW q1
  have km := hR1.2.1.k0
  have ka1 : tbK (gK h1 ar) = true := by rw [q1.k]; exact ka
  have na1 : gN h1 ar = n := q1.n.trans na
  have y1 : gI h1 ar (i + 1) = xs (i + 1) := (q1.i (fun z => by unfold CW at z; omega)).trans x1
  simp only [pu_s, v251_1309, v251_1310, v251_1311, v251_1312, v251_1313, v251_1314, v251_1315, e1, c1, i1, y1, ka1, na1, km, true_and, or_true, and_self]
  refine k209 hR1 hW _ (fun h2 u2 q2 hR2 => ?_)
  have hW2 : WF (oRn A (xs (i + 1))).1 := by unfold oRn; first | exact hW | (split <;> first | exact hW | (split <;> first | exact hW | (split <;> first | exact hW | (split <;> first | exact hW | (split <;> exact hW)))))
  have hC2 := hC1.ag hW2 q2.1
  simp only [pu_s, v251_1318, reduceIte]
  exact hN h2 u2 _ hC2 hR2 hW2 ((Ag.of q1 (fun a j z => z.1)).tr (q2.1.mo (by omega))) (by have := q2.2.2.1; rw [q1.2.2.1] at this; exact this) (by have := q2.2.2.2; rw [q1.2.2.2.1] at this; exact this)
theorem lc_36 (hL : LH b ar n i xs u A h) (hN : LN b ar i h K) : V 251 1323 [.ref ar, .ref b, .ref (b + 138), .int (nI i)] [] h K := by
  obtain ⟨hC, hR, hW, har, hi, hn, ka, na, xa⟩ := hL
  have kb := hC.1.2.1
  have e1 : nI i + 1 = nI (i + 1) := nI_add i 1
  have c1 : (nI (i + 1)).toNatClampNeg = i + 1 := nIc (by omega)
  have i1 : inb (nI (i + 1)) n = True := nIb (by omega) (by omega)
  have x1 := xa (i + 1) (by omega)
  have e2 : nI i + 2 = nI (i + 2) := nI_add i 2
  have c2 : (nI (i + 2)).toNatClampNeg = i + 2 := nIc (by omega)
  have i2 : inb (nI (i + 2)) n = True := nIb (by omega) (by omega)
  have x2 := xa (i + 2) (by omega)
  have e3 : nI i + 3 = nI (i + 3) := nI_add i 3
  have c3 : (nI (i + 3)).toNatClampNeg = i + 3 := nIc (by omega)
  have i3 : inb (nI (i + 3)) n = True := nIb (by omega) (by omega)
  have x3 := xa (i + 3) (by omega)
  simp only [v251_1323, v251_1324, v251_1325, v251_1326, v251_1327, v251_1328, v251_1329, v251_1330, v251_1331, v251_1332, v251_1333, v251_1334, v251_1335, v251_1336, v251_1337, v251_1338, v251_1339, e1, c1, i1, e2, c2, i2, e3, c3, i3, x1, x2, x3, ka, na, kb, true_and, or_true, and_self]
  refine k90 hC hW _ _ _ (fun h1 q1 hC1 => ?_)
  have hR1 := hR.cw hW q1
  have km := hR1.2.1.k0
  have ka1 : tbK (gK h1 ar) = true := by rw [q1.k]; exact ka
  have na1 : gN h1 ar = n := q1.n.trans na
  have y1 : gI h1 ar (i + 1) = xs (i + 1) := (q1.i (fun z => by unfold CW at z; omega)).trans x1
  have y2 : gI h1 ar (i + 2) = xs (i + 2) := (q1.i (fun z => by unfold CW at z; omega)).trans x2
  have y3 : gI h1 ar (i + 3) = xs (i + 3) := (q1.i (fun z => by unfold CW at z; omega)).trans x3
  simp only [pu_s, v251_1342, v251_1343, v251_1344, v251_1345, v251_1346, v251_1347, v251_1348, v251_1349, v251_1350, v251_1351, v251_1352, v251_1353, v251_1354, v251_1355, v251_1356, v251_1357, v251_1358, e1, c1, i1, e2, c2, i2, e3, c3, i3, y1, y2, y3, ka1, na1, km, true_and, or_true, and_self]
  refine k210 hR1 hW _ _ _ (fun h2 u2 q2 hR2 => ?_)
  have hW2 : WF (oNb A (xs (i + 1)) (xs (i + 2)) (xs (i + 3))).1 := by unfold oNb; first | exact hW | (split <;> first | exact hW | (split <;> first | exact hW | (split <;> first | exact hW | (split <;> first | exact hW | (split <;> exact hW)))))
  have hC2 := hC1.ag hW2 q2.1
  simp only [pu_s, v251_1361, reduceIte]
  exact hN h2 u2 _ hC2 hR2 hW2 ((Ag.of q1 (fun a j z => z.1)).tr (q2.1.mo (by omega))) (by have := q2.2.2.1; rw [q1.2.2.1] at this; exact this) (by have := q2.2.2.2; rw [q1.2.2.2.1] at this; exact this)
theorem lc_37 (hL : LH b ar n i xs u A h) (hN : LN b ar i h K) : V 251 1366 [.ref ar, .ref b, .ref (b + 138), .int (nI i)] [] h K := by
  obtain ⟨hC, hR, hW, har, hi, hn, ka, na, xa⟩ := hL
  have kb := hC.1.2.1
  have e1 : nI i + 1 = nI (i + 1) := nI_add i 1
  have c1 : (nI (i + 1)).toNatClampNeg = i + 1 := nIc (by omega)
  have i1 : inb (nI (i + 1)) n = True := nIb (by omega) (by omega)
  have x1 := xa (i + 1) (by omega)
  have e2 : nI i + 2 = nI (i + 2) := nI_add i 2
  have c2 : (nI (i + 2)).toNatClampNeg = i + 2 := nIc (by omega)
  have i2 : inb (nI (i + 2)) n = True := nIb (by omega) (by omega)
  have x2 := xa (i + 2) (by omega)
  have e3 : nI i + 3 = nI (i + 3) := nI_add i 3
  have c3 : (nI (i + 3)).toNatClampNeg = i + 3 := nIc (by omega)
  have i3 : inb (nI (i + 3)) n = True := nIb (by omega) (by omega)
  have x3 := xa (i + 3) (by omega)
  simp only [v251_1366, v251_1367, v251_1368, v251_1369, v251_1370, v251_1371, v251_1372, v251_1373, v251_1374, v251_1375, v251_1376, v251_1377, v251_1378, v251_1379, v251_1380, v251_1381, v251_1382, e1, c1, i1, e2, c2, i2, e3, c3, i3, x1, x2, x3, ka, na, kb, true_and, or_true, and_self]
  refine k91 hC hW _ _ _ (fun h1 q1 hC1 => ?_)
  have hR1 := hR.cw hW q1
  have km := hR1.2.1.k0
  have ka1 : tbK (gK h1 ar) = true := by rw [q1.k]; exact ka
  have na1 : gN h1 ar = n := q1.n.trans na
  have y1 : gI h1 ar (i + 1) = xs (i + 1) := (q1.i (fun z => by unfold CW at z; omega)).trans x1
  have y2 : gI h1 ar (i + 2) = xs (i + 2) := (q1.i (fun z => by unfold CW at z; omega)).trans x2
  have y3 : gI h1 ar (i + 3) = xs (i + 3) := (q1.i (fun z => by unfold CW at z; omega)).trans x3
  simp only [pu_s, v251_1385, v251_1386, v251_1387, v251_1388, v251_1389, v251_1390, v251_1391, v251_1392, v251_1393, v251_1394, v251_1395, v251_1396, v251_1397, v251_1398, v251_1399, v251_1400, v251_1401, e1, c1, i1, e2, c2, i2, e3, c3, i3, y1, y2, y3, ka1, na1, km, true_and, or_true, and_self]
  refine k211 hR1 hW _ _ _ (fun h2 u2 q2 hR2 => ?_)
  have hW2 : WF (oQck A (xs (i + 1)) (xs (i + 2)) (xs (i + 3))).1 := by unfold oQck; first | exact hW | (split <;> first | exact hW | (split <;> first | exact hW | (split <;> first | exact hW | (split <;> first | exact hW | (split <;> exact hW)))))
  have hC2 := hC1.ag hW2 q2.1
  simp only [pu_s, v251_1404, reduceIte]
  exact hN h2 u2 _ hC2 hR2 hW2 ((Ag.of q1 (fun a j z => z.1)).tr (q2.1.mo (by omega))) (by have := q2.2.2.1; rw [q1.2.2.1] at this; exact this) (by have := q2.2.2.2; rw [q1.2.2.2.1] at this; exact this)
theorem lc_38 (hL : LH b ar n i xs u A h) (hN : LN b ar i h K) : V 251 1409 [.ref ar, .ref b, .ref (b + 138), .int (nI i)] [] h K := by
  obtain ⟨hC, hR, hW, har, hi, hn, ka, na, xa⟩ := hL
  have kb := hC.1.2.1
  have e1 : nI i + 1 = nI (i + 1) := nI_add i 1
  have c1 : (nI (i + 1)).toNatClampNeg = i + 1 := nIc (by omega)
  have i1 : inb (nI (i + 1)) n = True := nIb (by omega) (by omega)
  have x1 := xa (i + 1) (by omega)
  simp only [v251_1409, v251_1410, v251_1411, v251_1412, v251_1413, v251_1414, v251_1415, e1, c1, i1, x1, ka, na, kb, true_and, or_true, and_self]
  refine k92 hC hW _ (fun h1 q1 hC1 => ?_)
  have hR1 := hR.cw hW q1
  have km := hR1.2.1.k0
  have ka1 : tbK (gK h1 ar) = true := by rw [q1.k]; exact ka
  have na1 : gN h1 ar = n := q1.n.trans na
  have y1 : gI h1 ar (i + 1) = xs (i + 1) := (q1.i (fun z => by unfold CW at z; omega)).trans x1
  simp only [pu_s, v251_1418, v251_1419, v251_1420, v251_1421, v251_1422, v251_1423, v251_1424, e1, c1, i1, y1, ka1, na1, km, true_and, or_true, and_self]
  refine k213 hR1 hW _ (fun h2 u2 q2 hR2 => ?_)
  have hW2 : WF (oWth A (xs (i + 1))).1 := by unfold oWth; first | exact hW | (split <;> first | exact hW | (split <;> first | exact hW | (split <;> first | exact hW | (split <;> first | exact hW | (split <;> exact hW)))))
  have hC2 := hC1.ag hW2 q2.1
  simp only [pu_s, v251_1427, reduceIte]
  exact hN h2 u2 _ hC2 hR2 hW2 ((Ag.of q1 (fun a j z => z.1)).tr (q2.1.mo (by omega))) (by have := q2.2.2.1; rw [q1.2.2.1] at this; exact this) (by have := q2.2.2.2; rw [q1.2.2.2.1] at this; exact this)
theorem lc_39 (hL : LH b ar n i xs u A h) (hN : LN b ar i h K) : V 251 1432 [.ref ar, .ref b, .ref (b + 138), .int (nI i)] [] h K := by
  obtain ⟨hC, hR, hW, har, hi, hn, ka, na, xa⟩ := hL
  have kb := hC.1.2.1
  have e1 : nI i + 1 = nI (i + 1) := nI_add i 1
  have c1 : (nI (i + 1)).toNatClampNeg = i + 1 := nIc (by omega)
  have i1 : inb (nI (i + 1)) n = True := nIb (by omega) (by omega)
  have x1 := xa (i + 1) (by omega)
  have e2 : nI i + 2 = nI (i + 2) := nI_add i 2
  have c2 : (nI (i + 2)).toNatClampNeg = i + 2 := nIc (by omega)
  have i2 : inb (nI (i + 2)) n = True := nIb (by omega) (by omega)
  have x2 := xa (i + 2) (by omega)
  simp only [v251_1432, v251_1433, v251_1434, v251_1435, v251_1436, v251_1437, v251_1438, v251_1439, v251_1440, v251_1441, v251_1442, v251_1443, e1, c1, i1, e2, c2, i2, x1, x2, ka, na, kb, true_and, or_true, and_self]
  refine k93 hC hW _ _ (fun h1 q1 hC1 => ?_)
  have hR1 := hR.cw hW q1
  have km := hR1.2.1.k0
  have ka1 : tbK (gK h1 ar) = true := by rw [q1.k]; exact ka
  have na1 : gN h1 ar = n := q1.n.trans na
  have y1 : gI h1 ar (i + 1) = xs (i + 1) := (q1.i (fun z => by unfold CW at z; omega)).trans x1
  have y2 : gI h1 ar (i + 2) = xs (i + 2) := (q1.i (fun z => by unfold CW at z; omega)).trans x2
  simp only [pu_s, v251_1446, v251_1447, v251_1448, v251_1449, v251_1450, v251_1451, v251_1452, v251_1453, v251_1454, v251_1455, v251_1456, v251_1457, e1, c1, i1, e2, c2, i2, y1, y2, ka1, na1, km, true_and, or_true, and_self]
  refine k215 hR1 hW _ _ (fun h2 u2 q2 hR2 => ?_)
  have hC2 := hC1.ag (wSwp hW _ _) q2.1
  simp only [pu_s, v251_1460, reduceIte]
  exact hN h2 u2 _ hC2 hR2 (wSwp hW _ _) ((Ag.of q1 (fun a j z => z.1)).tr (q2.1.mo (by omega))) (by have := q2.2.2.1; rw [q1.2.2.1] at this; exact this) (by have := q2.2.2.2; rw [q1.2.2.2.1] at this; exact this)
theorem lc_40 (hL : LH b ar n i xs u A h) (hN : LN b ar i h K) : V 251 1465 [.ref ar, .ref b, .ref (b + 138), .int (nI i)] [] h K := by
  obtain ⟨hC, hR, hW, har, hi, hn, ka, na, xa⟩ := hL
  have kb := hC.1.2.1
  have e1 : nI i + 1 = nI (i + 1) := nI_add i 1
  have c1 : (nI (i + 1)).toNatClampNeg = i + 1 := nIc (by omega)
  have i1 : inb (nI (i + 1)) n = True := nIb (by omega) (by omega)
  have x1 := xa (i + 1) (by omega)
  simp only [v251_1465, v251_1466, v251_1467, v251_1468, v251_1469, v251_1470, v251_1471, e1, c1, i1, x1, ka, na, kb, true_and, or_true, and_self]
  refine k94 hC hW _ (fun h1 q1 hC1 => ?_)
  have hR1 := hR.cw hW q1
  have km := hR1.2.1.k0
  have ka1 : tbK (gK h1 ar) = true := by rw [q1.k]; exact ka
  have na1 : gN h1 ar = n := q1.n.trans na
  have y1 : gI h1 ar (i + 1) = xs (i + 1) := (q1.i (fun z => by unfold CW at z; omega)).trans x1
  simp only [pu_s, v251_1474, v251_1475, v251_1476, v251_1477, v251_1478, v251_1479, v251_1480, e1, c1, i1, y1, ka1, na1, km, true_and, or_true, and_self]
  refine k216 hR1 hW _ (fun h2 u2 q2 hR2 => ?_)
  have hW2 : WF (oAhd A (xs (i + 1))).1 := by unfold oAhd; first | exact hW | (split <;> first | exact hW | (split <;> first | exact hW | (split <;> first | exact hW | (split <;> first | exact hW | (split <;> exact hW)))))
  have hC2 := hC1.ag hW2 q2.1
  simp only [pu_s, v251_1483, reduceIte]
  exact hN h2 u2 _ hC2 hR2 hW2 ((Ag.of q1 (fun a j z => z.1)).tr (q2.1.mo (by omega))) (by have := q2.2.2.1; rw [q1.2.2.1] at this; exact this) (by have := q2.2.2.2; rw [q1.2.2.2.1] at this; exact this)
theorem lc_41 (hL : LH b ar n i xs u A h) (hN : LN b ar i h K) : V 251 1488 [.ref ar, .ref b, .ref (b + 138), .int (nI i)] [] h K := by
  obtain ⟨hC, hR, hW, har, hi, hn, ka, na, xa⟩ := hL
  have kb := hC.1.2.1
  simp only [v251_1488, v251_1489, kb, true_and, or_true, and_self]
  refine k95 hC hW (fun h1 q1 hC1 => ?_)
  have hR1 := hR.cw hW q1
  have km := hR1.2.1.k0
  simp only [pu_s, v251_1492, v251_1493, km, true_and, or_true, and_self]
  refine k217 hR1 hW (fun h2 u2 q2 hR2 => ?_)
  have hW2 : WF (oDst A).1 := by unfold oDst; first | exact hW | (split <;> first | exact hW | (split <;> first | exact hW | (split <;> first | exact hW | (split <;> first | exact hW | (split <;> exact hW)))))
  have hC2 := hC1.ag hW2 q2.1
  simp only [pu_s, v251_1496, reduceIte]
  exact hN h2 u2 _ hC2 hR2 hW2 ((Ag.of q1 (fun a j z => z.1)).tr (q2.1.mo (by omega))) (by have := q2.2.2.1; rw [q1.2.2.1] at this; exact this) (by have := q2.2.2.2; rw [q1.2.2.2.1] at this; exact this)
theorem lc_42 (hL : LH b ar n i xs u A h) (hN : LN b ar i h K) : V 251 1501 [.ref ar, .ref b, .ref (b + 138), .int (nI i)] [] h K := by
  obtain ⟨hC, hR, hW, har, hi, hn, ka, na, xa⟩ := hL
  have kb := hC.1.2.1
  simp only [v251_1501, v251_1502, kb, true_and, or_true, and_self]
  refine k96 hC hW (fun h1 q1 hC1 => ?_)
  have hR1 := hR.cw hW q1
  have km := hR1.2.1.k0
  simp only [pu_s, v251_1505, v251_1506, km, true_and, or_true, and_self]
  refine k218 hR1 hW (fun h2 u2 q2 hR2 => ?_)
  have hC2 := hC1.ag hW q2.1
  simp only [pu_s, v251_1509, reduceIte]
  exact hN h2 u2 _ hC2 hR2 hW ((Ag.of q1 (fun a j z => z.1)).tr (q2.1.mo (by omega))) (by have := q2.2.2.1; rw [q1.2.2.1] at this; exact this) (by have := q2.2.2.2; rw [q1.2.2.2.1] at this; exact this)
theorem lc_43 (hL : LH b ar n i xs u A h) (hN : LN b ar i h K) : V 251 1514 [.ref ar, .ref b, .ref (b + 138), .int (nI i)] [] h K := by
  obtain ⟨hC, hR, hW, har, hi, hn, ka, na, xa⟩ := hL
  have kb := hC.1.2.1
  have e1 : nI i + 1 = nI (i + 1) := nI_add i 1
  have c1 : (nI (i + 1)).toNatClampNeg = i + 1 := nIc (by omega)
  have i1 : inb (nI (i + 1)) n = True := nIb (by omega) (by omega)
  have x1 := xa (i + 1) (by omega)
  simp only [v251_1514, v251_1515, v251_1516, v251_1517, v251_1518, v251_1519, v251_1520, e1, c1, i1, x1, ka, na, kb, true_and, or_true, and_self]
  refine k97 hC hW _ (fun h1 q1 hC1 => ?_)
  have hR1 := hR.cw hW q1
  have km := hR1.2.1.k0
  have ka1 : tbK (gK h1 ar) = true := by rw [q1.k]; exact ka
  have na1 : gN h1 ar = n := q1.n.trans na
  have y1 : gI h1 ar (i + 1) = xs (i + 1) := (q1.i (fun z => by unfold CW at z; omega)).trans x1
  simp only [pu_s, v251_1523, v251_1524, v251_1525, v251_1526, v251_1527, v251_1528, v251_1529, e1, c1, i1, y1, ka1, na1, km, true_and, or_true, and_self]
  refine k221 hR1 hW _ (fun h2 u2 q2 hR2 => ?_)
  have hW2 : WF (oJdg A (xs (i + 1))).1 := by unfold oJdg; first | exact hW | (split <;> first | exact hW | (split <;> first | exact hW | (split <;> first | exact hW | (split <;> first | exact hW | (split <;> exact hW)))))
  have hC2 := hC1.ag hW2 q2.1
  simp only [pu_s, v251_1532, reduceIte]
  exact hN h2 u2 _ hC2 hR2 hW2 ((Ag.of q1 (fun a j z => z.1)).tr (q2.1.mo (by omega))) (by have := q2.2.2.1; rw [q1.2.2.1] at this; exact this) (by have := q2.2.2.2; rw [q1.2.2.2.1] at this; exact this)
theorem lc_44 (hL : LH b ar n i xs u A h) (hN : LN b ar i h K) : V 251 1537 [.ref ar, .ref b, .ref (b + 138), .int (nI i)] [] h K := by
  obtain ⟨hC, hR, hW, har, hi, hn, ka, na, xa⟩ := hL
  have kb := hC.1.2.1
  have e1 : nI i + 1 = nI (i + 1) := nI_add i 1
  have c1 : (nI (i + 1)).toNatClampNeg = i + 1 := nIc (by omega)
  have i1 : inb (nI (i + 1)) n = True := nIb (by omega) (by omega)
  have x1 := xa (i + 1) (by omega)
  simp only [v251_1537, v251_1538, v251_1539, v251_1540, v251_1541, v251_1542, v251_1543, e1, c1, i1, x1, ka, na, kb, true_and, or_true, and_self]
  refine k98 hC hW _ (fun h1 q1 hC1 => ?_)
  have hR1 := hR.cw hW q1
  have km := hR1.2.1.k0
  have ka1 : tbK (gK h1 ar) = true := by rw [q1.k]; exact ka
  have na1 : gN h1 ar = n := q1.n.trans na
  have y1 : gI h1 ar (i + 1) = xs (i + 1) := (q1.i (fun z => by unfold CW at z; omega)).trans x1
  simp only [pu_s, v251_1546, v251_1547, v251_1548, v251_1549, v251_1550, v251_1551, v251_1552, e1, c1, i1, y1, ka1, na1, km, true_and, or_true, and_self]
  refine k223 hR1 hW _ (fun h2 u2 q2 hR2 => ?_)
  have hW2 : WF (oTld A (xs (i + 1))).1 := by unfold oTld; first | exact hW | (split <;> first | exact hW | (split <;> first | exact hW | (split <;> first | exact hW | (split <;> first | exact hW | (split <;> exact hW)))))
  have hC2 := hC1.ag hW2 q2.1
  simp only [pu_s, v251_1555, reduceIte]
  exact hN h2 u2 _ hC2 hR2 hW2 ((Ag.of q1 (fun a j z => z.1)).tr (q2.1.mo (by omega))) (by have := q2.2.2.1; rw [q1.2.2.1] at this; exact this) (by have := q2.2.2.2; rw [q1.2.2.2.1] at this; exact this)
theorem lc_45 (hL : LH b ar n i xs u A h) (hN : LN b ar i h K) : V 251 1560 [.ref ar, .ref b, .ref (b + 138), .int (nI i)] [] h K := by
  obtain ⟨hC, hR, hW, har, hi, hn, ka, na, xa⟩ := hL
  have kb := hC.1.2.1
  have e1 : nI i + 1 = nI (i + 1) := nI_add i 1
  have c1 : (nI (i + 1)).toNatClampNeg = i + 1 := nIc (by omega)
  have i1 : inb (nI (i + 1)) n = True := nIb (by omega) (by omega)
  have x1 := xa (i + 1) (by omega)
  simp only [v251_1560, v251_1561, v251_1562, v251_1563, v251_1564, v251_1565, v251_1566, e1, c1, i1, x1, ka, na, kb, true_and, or_true, and_self]
  refine k99 hC hW _ (fun h1 q1 hC1 => ?_)
  have hR1 := hR.cw hW q1
  have km := hR1.2.1.k0
  have ka1 : tbK (gK h1 ar) = true := by rw [q1.k]; exact ka
  have na1 : gN h1 ar = n := q1.n.trans na
  have y1 : gI h1 ar (i + 1) = xs (i + 1) := (q1.i (fun z => by unfold CW at z; omega)).trans x1
  simp only [pu_s, v251_1569, v251_1570, v251_1571, v251_1572, v251_1573, v251_1574, v251_1575, e1, c1, i1, y1, ka1, na1, km, true_and, or_true, and_self]
  refine k224 hR1 hW _ (fun h2 u2 q2 hR2 => ?_)
  have hC2 := hC1.ag (wMks hW _) q2.1
  simp only [pu_s, v251_1578, reduceIte]
  exact hN h2 u2 _ hC2 hR2 (wMks hW _) ((Ag.of q1 (fun a j z => z.1)).tr (q2.1.mo (by omega))) (by have := q2.2.2.1; rw [q1.2.2.1] at this; exact this) (by have := q2.2.2.2; rw [q1.2.2.2.1] at this; exact this)
theorem lc_46 (hL : LH b ar n i xs u A h) (hN : LN b ar i h K) : V 251 1583 [.ref ar, .ref b, .ref (b + 138), .int (nI i)] [] h K := by
  obtain ⟨hC, hR, hW, har, hi, hn, ka, na, xa⟩ := hL
  have kb := hC.1.2.1
  simp only [v251_1583, v251_1584, kb, true_and, or_true, and_self]
  refine k100 hC hW (fun h1 q1 hC1 => ?_)
  have hR1 := hR.cw hW q1
  have km := hR1.2.1.k0
  simp only [pu_s, v251_1587, v251_1588, km, true_and, or_true, and_self]
  refine k225 hR1 hW (fun h2 u2 q2 hR2 => ?_)
  have hC2 := hC1.ag (wMrn hW) q2.1
  simp only [pu_s, v251_1591, reduceIte]
  exact hN h2 u2 _ hC2 hR2 (wMrn hW) ((Ag.of q1 (fun a j z => z.1)).tr (q2.1.mo (by omega))) (by have := q2.2.2.1; rw [q1.2.2.1] at this; exact this) (by have := q2.2.2.2; rw [q1.2.2.2.1] at this; exact this)
theorem lc_47 (hL : LH b ar n i xs u A h) (hN : LN b ar i h K) : V 251 1596 [.ref ar, .ref b, .ref (b + 138), .int (nI i)] [] h K := by
  obtain ⟨hC, hR, hW, har, hi, hn, ka, na, xa⟩ := hL
  have kb := hC.1.2.1
  have e1 : nI i + 1 = nI (i + 1) := nI_add i 1
  have c1 : (nI (i + 1)).toNatClampNeg = i + 1 := nIc (by omega)
  have i1 : inb (nI (i + 1)) n = True := nIb (by omega) (by omega)
  have x1 := xa (i + 1) (by omega)
  simp only [v251_1596, v251_1597, v251_1598, v251_1599, v251_1600, v251_1601, v251_1602, e1, c1, i1, x1, ka, na, kb, true_and, or_true, and_self]
  refine k101 hC hW _ (fun h1 q1 hC1 => ?_)
  have hR1 := hR.cw hW q1
  have km := hR1.2.1.k0
  have ka1 : tbK (gK h1 ar) = true := by rw [q1.k]; exact ka
  have na1 : gN h1 ar = n := q1.n.trans na
  have y1 : gI h1 ar (i + 1) = xs (i + 1) := (q1.i (fun z => by unfold CW at z; omega)).trans x1
  simp only [pu_s, v251_1605, v251_1606, v251_1607, v251_1608, v251_1609, v251_1610, v251_1611, e1, c1, i1, y1, ka1, na1, km, true_and, or_true, and_self]
  refine k227 hR1 hW _ (fun h2 u2 q2 hR2 => ?_)
  have hC2 := hC1.ag (wDrw hW _) q2.1
  simp only [pu_s, v251_1614, reduceIte]
  exact hN h2 u2 _ hC2 hR2 (wDrw hW _) ((Ag.of q1 (fun a j z => z.1)).tr (q2.1.mo (by omega))) (by have := q2.2.2.1; rw [q1.2.2.1] at this; exact this) (by have := q2.2.2.2; rw [q1.2.2.2.1] at this; exact this)
theorem lc_48 (hL : LH b ar n i xs u A h) (hN : LN b ar i h K) : V 251 1619 [.ref ar, .ref b, .ref (b + 138), .int (nI i)] [] h K := by
  obtain ⟨hC, hR, hW, har, hi, hn, ka, na, xa⟩ := hL
  have kb := hC.1.2.1
  have e1 : nI i + 1 = nI (i + 1) := nI_add i 1
  have c1 : (nI (i + 1)).toNatClampNeg = i + 1 := nIc (by omega)
  have i1 : inb (nI (i + 1)) n = True := nIb (by omega) (by omega)
  have x1 := xa (i + 1) (by omega)
  simp only [v251_1619, v251_1620, v251_1621, v251_1622, v251_1623, v251_1624, v251_1625, e1, c1, i1, x1, ka, na, kb, true_and, or_true, and_self]
  refine k102 hC hW _ (fun h1 q1 hC1 => ?_)
  have hR1 := hR.cw hW q1
  have km := hR1.2.1.k0
  have ka1 : tbK (gK h1 ar) = true := by rw [q1.k]; exact ka
  have na1 : gN h1 ar = n := q1.n.trans na
  have y1 : gI h1 ar (i + 1) = xs (i + 1) := (q1.i (fun z => by unfold CW at z; omega)).trans x1
  simp only [pu_s, v251_1628, v251_1629, v251_1630, v251_1631, v251_1632, v251_1633, v251_1634, e1, c1, i1, y1, ka1, na1, km, true_and, or_true, and_self]
  refine k228 hR1 hW _ (fun h2 u2 q2 hR2 => ?_)
  have hW2 : WF (oSum A (xs (i + 1))).1 := by unfold oSum; first | exact hW | (split <;> first | exact hW | (split <;> first | exact hW | (split <;> first | exact hW | (split <;> first | exact hW | (split <;> exact hW)))))
  have hC2 := hC1.ag hW2 q2.1
  simp only [pu_s, v251_1637, reduceIte]
  exact hN h2 u2 _ hC2 hR2 hW2 ((Ag.of q1 (fun a j z => z.1)).tr (q2.1.mo (by omega))) (by have := q2.2.2.1; rw [q1.2.2.1] at this; exact this) (by have := q2.2.2.2; rw [q1.2.2.2.1] at this; exact this)
theorem lc_49 (hL : LH b ar n i xs u A h) (hN : LN b ar i h K) : V 251 1642 [.ref ar, .ref b, .ref (b + 138), .int (nI i)] [] h K := by
  obtain ⟨hC, hR, hW, har, hi, hn, ka, na, xa⟩ := hL
  have kb := hC.1.2.1
  simp only [v251_1642, v251_1643, kb, true_and, or_true, and_self]
  refine k103 hC hW (fun h1 q1 hC1 => ?_)
  have hR1 := hR.cw hW q1
  have km := hR1.2.1.k0
  simp only [pu_s, v251_1646, v251_1647, km, true_and, or_true, and_self]
  refine k229 hR1 hW (fun h2 u2 q2 hR2 => ?_)
  have hC2 := hC1.ag (wClr hW) q2.1
  simp only [pu_s, v251_1650, reduceIte]
  exact hN h2 u2 _ hC2 hR2 (wClr hW) ((Ag.of q1 (fun a j z => z.1)).tr (q2.1.mo (by omega))) (by have := q2.2.2.1; rw [q1.2.2.1] at this; exact this) (by have := q2.2.2.2; rw [q1.2.2.2.1] at this; exact this)
theorem lc_50 (hL : LH b ar n i xs u A h) (hN : LN b ar i h K) : V 251 1655 [.ref ar, .ref b, .ref (b + 138), .int (nI i)] [] h K := by
  obtain ⟨hC, hR, hW, har, hi, hn, ka, na, xa⟩ := hL
  have kb := hC.1.2.1
  have e1 : nI i + 1 = nI (i + 1) := nI_add i 1
  have c1 : (nI (i + 1)).toNatClampNeg = i + 1 := nIc (by omega)
  have i1 : inb (nI (i + 1)) n = True := nIb (by omega) (by omega)
  have x1 := xa (i + 1) (by omega)
  simp only [v251_1655, v251_1656, v251_1657, v251_1658, v251_1659, v251_1660, v251_1661, e1, c1, i1, x1, ka, na, kb, true_and, or_true, and_self]
  refine k104 hC hW _ (fun h1 q1 hC1 => ?_)
  have hR1 := hR.cw hW q1
  have km := hR1.2.1.k0
  have ka1 : tbK (gK h1 ar) = true := by rw [q1.k]; exact ka
  have na1 : gN h1 ar = n := q1.n.trans na
  have y1 : gI h1 ar (i + 1) = xs (i + 1) := (q1.i (fun z => by unfold CW at z; omega)).trans x1
  simp only [pu_s, v251_1664, v251_1665, v251_1666, v251_1667, v251_1668, v251_1669, v251_1670, e1, c1, i1, y1, ka1, na1, km, true_and, or_true, and_self]
  refine k230 hR1 hW _ (fun h2 u2 q2 hR2 => ?_)
  have hC2 := hC1.ag (wSed hW _) q2.1
  simp only [pu_s, v251_1673, reduceIte]
  exact hN h2 u2 _ hC2 hR2 (wSed hW _) ((Ag.of q1 (fun a j z => z.1)).tr (q2.1.mo (by omega))) (by have := q2.2.2.1; rw [q1.2.2.1] at this; exact this) (by have := q2.2.2.2; rw [q1.2.2.2.1] at this; exact this)
theorem lc_51 (hL : LH b ar n i xs u A h) (hN : LN b ar i h K) : V 251 1678 [.ref ar, .ref b, .ref (b + 138), .int (nI i)] [] h K := by
  obtain ⟨hC, hR, hW, har, hi, hn, ka, na, xa⟩ := hL
  have kb := hC.1.2.1
  simp only [v251_1678, v251_1679, kb, true_and, or_true, and_self]
  refine k105 hC hW (fun h1 q1 hC1 => ?_)
  have hR1 := hR.cw hW q1
  have km := hR1.2.1.k0
  simp only [pu_s, v251_1682, v251_1683, km, true_and, or_true, and_self]
  refine k234 hR1 hW (fun h2 u2 q2 hR2 => ?_)
  have hC2 := hC1.ag (wImg hW) q2.1
  simp only [pu_s, v251_1686, reduceIte]
  exact hN h2 u2 _ hC2 hR2 (wImg hW) ((Ag.of q1 (fun a j z => z.1)).tr (q2.1.mo (by omega))) (by have := q2.2.2.1; rw [q1.2.2.1] at this; exact this) (by have := q2.2.2.2; rw [q1.2.2.2.1] at this; exact this)
theorem lc_52 (hL : LH b ar n i xs u A h) (hN : LN b ar i h K) : V 251 1691 [.ref ar, .ref b, .ref (b + 138), .int (nI i)] [] h K := by
  obtain ⟨hC, hR, hW, har, hi, hn, ka, na, xa⟩ := hL
  have kb := hC.1.2.1
  simp only [v251_1691, v251_1692, kb, true_and, or_true, and_self]
  refine k106 hC hW (fun h1 q1 hC1 => ?_)
  have hR1 := hR.cw hW q1
  have km := hR1.2.1.k0
  simp only [pu_s, v251_1695, v251_1696, km, true_and, or_true, and_self]
  refine k235 hR1 hW (fun h2 u2 q2 hR2 => ?_)
  have hC2 := hC1.ag (wBck hW) q2.1
  simp only [pu_s, v251_1699, reduceIte]
  exact hN h2 u2 _ hC2 hR2 (wBck hW) ((Ag.of q1 (fun a j z => z.1)).tr (q2.1.mo (by omega))) (by have := q2.2.2.1; rw [q1.2.2.1] at this; exact this) (by have := q2.2.2.2; rw [q1.2.2.2.1] at this; exact this)
theorem lc_53 (hL : LH b ar n i xs u A h) (hN : LN b ar i h K) : V 251 1704 [.ref ar, .ref b, .ref (b + 138), .int (nI i)] [] h K := by
  obtain ⟨hC, hR, hW, har, hi, hn, ka, na, xa⟩ := hL
  have kb := hC.1.2.1
  have e1 : nI i + 1 = nI (i + 1) := nI_add i 1
  have c1 : (nI (i + 1)).toNatClampNeg = i + 1 := nIc (by omega)
  have i1 : inb (nI (i + 1)) n = True := nIb (by omega) (by omega)
  have x1 := xa (i + 1) (by omega)
  simp only [v251_1704, v251_1705, v251_1706, v251_1707, v251_1708, v251_1709, v251_1710, e1, c1, i1, x1, ka, na, kb, true_and, or_true, and_self]
  rw [k107 hC hW]
  have hC1 := hC
  have hR1 := hR
  have km := hR.2.1.k0
  simp only [pu_s, v251_1713, v251_1714, v251_1715, v251_1716, v251_1717, v251_1718, v251_1719, e1, c1, i1, x1, ka, na, km, true_and, or_true, and_self]
  rw [k236 hR hW]
  simp only [pu_s, v251_1722, lg_eq, reduceIte]
  exact hN h u A hC hR hW Ag.rf (by omega) (by omega)
end
