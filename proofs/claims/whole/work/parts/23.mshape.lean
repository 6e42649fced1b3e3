/-! THE REFERENCE OBJECT at m: its cells, kinds, lengths, its references (printed) -/
def mfL : List (Nat × Nat) := [(0, 1), (1, 2), (2, 3), (3, 4), (4, 13), (5, 14), (6, 15), (8, 16), (10, 17), (12, 26), (13, 51), (25, 52), (27, 53), (28, 54), (36, 55), (37, 56), (38, 57), (40, 58)]
def mkL : List (Nat × Nat) := [(0, 7), (1, 8), (2, 8), (3, 8), (4, 13), (13, 9), (14, 8), (15, 8), (16, 8), (17, 12), (26, 12), (51, 8), (52, 8), (53, 10), (54, 10), (55, 10), (56, 8), (57, 8), (58, 8)]
def mnL : List (Nat × Nat) := [(1, 8), (2, 8), (3, 8), (4, 8), (13, 40), (14, 8), (15, 250), (16, 8), (17, 8), (26, 24), (51, 4), (52, 4), (53, 8), (54, 8), (55, 24), (56, 24), (57, 24), (58, 7)]
def MSh (m : Nat) (h : Hp) : Prop := (∀ q ∈ mfL, gR h m q.1 = some (m + q.2)) ∧ (∀ q ∈ mkL, gK h (m + q.1) = q.2) ∧ (∀ q ∈ mnL, gN h (m + q.1) = q.2) ∧
  (∀ i, i < 8 → gR h (m + 4) i = some (m + (5 + i)) ∧ gK h (m + (5 + i)) = 9 ∧ gN h (m + (5 + i)) = 40) ∧
  (∀ i, i < 8 → gR h (m + 17) i = some (m + (18 + i)) ∧ gK h (m + (18 + i)) = 8 ∧ gN h (m + (18 + i)) = 7) ∧
  (∀ i, i < 24 → gR h (m + 26) i = some (m + (27 + i)) ∧ gK h (m + (27 + i)) = 8 ∧ gN h (m + (27 + i)) = 3)
section
variable {m : Nat} {h h1 : Hp}
theorem MSh.f0 (hM : MSh m h) : gR h m 0 = some (m + 1) := hM.1 (0, 1) (by simp [mfL])
theorem MSh.f1 (hM : MSh m h) : gR h m 1 = some (m + 2) := hM.1 (1, 2) (by simp [mfL])
theorem MSh.f2 (hM : MSh m h) : gR h m 2 = some (m + 3) := hM.1 (2, 3) (by simp [mfL])
theorem MSh.f3 (hM : MSh m h) : gR h m 3 = some (m + 4) := hM.1 (3, 4) (by simp [mfL])
theorem MSh.f4 (hM : MSh m h) : gR h m 4 = some (m + 13) := hM.1 (4, 13) (by simp [mfL])
theorem MSh.f5 (hM : MSh m h) : gR h m 5 = some (m + 14) := hM.1 (5, 14) (by simp [mfL])
theorem MSh.f6 (hM : MSh m h) : gR h m 6 = some (m + 15) := hM.1 (6, 15) (by simp [mfL])
theorem MSh.f8 (hM : MSh m h) : gR h m 8 = some (m + 16) := hM.1 (8, 16) (by simp [mfL])
theorem MSh.f10 (hM : MSh m h) : gR h m 10 = some (m + 17) := hM.1 (10, 17) (by simp [mfL])
theorem MSh.f12 (hM : MSh m h) : gR h m 12 = some (m + 26) := hM.1 (12, 26) (by simp [mfL])
theorem MSh.f13 (hM : MSh m h) : gR h m 13 = some (m + 51) := hM.1 (13, 51) (by simp [mfL])
theorem MSh.f25 (hM : MSh m h) : gR h m 25 = some (m + 52) := hM.1 (25, 52) (by simp [mfL])
theorem MSh.f27 (hM : MSh m h) : gR h m 27 = some (m + 53) := hM.1 (27, 53) (by simp [mfL])
theorem MSh.f28 (hM : MSh m h) : gR h m 28 = some (m + 54) := hM.1 (28, 54) (by simp [mfL])
theorem MSh.f36 (hM : MSh m h) : gR h m 36 = some (m + 55) := hM.1 (36, 55) (by simp [mfL])
theorem MSh.f37 (hM : MSh m h) : gR h m 37 = some (m + 56) := hM.1 (37, 56) (by simp [mfL])
theorem MSh.f38 (hM : MSh m h) : gR h m 38 = some (m + 57) := hM.1 (38, 57) (by simp [mfL])
theorem MSh.f40 (hM : MSh m h) : gR h m 40 = some (m + 58) := hM.1 (40, 58) (by simp [mfL])
theorem MSh.k0 (hM : MSh m h) : gK h m = 7 := hM.2.1 (0, 7) (by simp [mkL])
theorem MSh.k1 (hM : MSh m h) : gK h (m + 1) = 8 := hM.2.1 (1, 8) (by simp [mkL])
theorem MSh.k2 (hM : MSh m h) : gK h (m + 2) = 8 := hM.2.1 (2, 8) (by simp [mkL])
theorem MSh.k3 (hM : MSh m h) : gK h (m + 3) = 8 := hM.2.1 (3, 8) (by simp [mkL])
theorem MSh.k4 (hM : MSh m h) : gK h (m + 4) = 13 := hM.2.1 (4, 13) (by simp [mkL])
theorem MSh.k13 (hM : MSh m h) : gK h (m + 13) = 9 := hM.2.1 (13, 9) (by simp [mkL])
theorem MSh.k14 (hM : MSh m h) : gK h (m + 14) = 8 := hM.2.1 (14, 8) (by simp [mkL])
theorem MSh.k15 (hM : MSh m h) : gK h (m + 15) = 8 := hM.2.1 (15, 8) (by simp [mkL])
theorem MSh.k16 (hM : MSh m h) : gK h (m + 16) = 8 := hM.2.1 (16, 8) (by simp [mkL])
theorem MSh.k17 (hM : MSh m h) : gK h (m + 17) = 12 := hM.2.1 (17, 12) (by simp [mkL])
theorem MSh.k26 (hM : MSh m h) : gK h (m + 26) = 12 := hM.2.1 (26, 12) (by simp [mkL])
theorem MSh.k51 (hM : MSh m h) : gK h (m + 51) = 8 := hM.2.1 (51, 8) (by simp [mkL])
theorem MSh.k52 (hM : MSh m h) : gK h (m + 52) = 8 := hM.2.1 (52, 8) (by simp [mkL])
theorem MSh.k53 (hM : MSh m h) : gK h (m + 53) = 10 := hM.2.1 (53, 10) (by simp [mkL])
theorem MSh.k54 (hM : MSh m h) : gK h (m + 54) = 10 := hM.2.1 (54, 10) (by simp [mkL])
theorem MSh.k55 (hM : MSh m h) : gK h (m + 55) = 10 := hM.2.1 (55, 10) (by simp [mkL])
theorem MSh.k56 (hM : MSh m h) : gK h (m + 56) = 8 := hM.2.1 (56, 8) (by simp [mkL])
theorem MSh.k57 (hM : MSh m h) : gK h (m + 57) = 8 := hM.2.1 (57, 8) (by simp [mkL])
theorem MSh.k58 (hM : MSh m h) : gK h (m + 58) = 8 := hM.2.1 (58, 8) (by simp [mkL])
theorem MSh.n1 (hM : MSh m h) : gN h (m + 1) = 8 := hM.2.2.1 (1, 8) (by simp [mnL])
theorem MSh.n2 (hM : MSh m h) : gN h (m + 2) = 8 := hM.2.2.1 (2, 8) (by simp [mnL])
theorem MSh.n3 (hM : MSh m h) : gN h (m + 3) = 8 := hM.2.2.1 (3, 8) (by simp [mnL])
theorem MSh.n4 (hM : MSh m h) : gN h (m + 4) = 8 := hM.2.2.1 (4, 8) (by simp [mnL])
theorem MSh.n13 (hM : MSh m h) : gN h (m + 13) = 40 := hM.2.2.1 (13, 40) (by simp [mnL])
theorem MSh.n14 (hM : MSh m h) : gN h (m + 14) = 8 := hM.2.2.1 (14, 8) (by simp [mnL])
theorem MSh.n15 (hM : MSh m h) : gN h (m + 15) = 250 := hM.2.2.1 (15, 250) (by simp [mnL])
theorem MSh.n16 (hM : MSh m h) : gN h (m + 16) = 8 := hM.2.2.1 (16, 8) (by simp [mnL])
theorem MSh.n17 (hM : MSh m h) : gN h (m + 17) = 8 := hM.2.2.1 (17, 8) (by simp [mnL])
theorem MSh.n26 (hM : MSh m h) : gN h (m + 26) = 24 := hM.2.2.1 (26, 24) (by simp [mnL])
theorem MSh.n51 (hM : MSh m h) : gN h (m + 51) = 4 := hM.2.2.1 (51, 4) (by simp [mnL])
theorem MSh.n52 (hM : MSh m h) : gN h (m + 52) = 4 := hM.2.2.1 (52, 4) (by simp [mnL])
theorem MSh.n53 (hM : MSh m h) : gN h (m + 53) = 8 := hM.2.2.1 (53, 8) (by simp [mnL])
theorem MSh.n54 (hM : MSh m h) : gN h (m + 54) = 8 := hM.2.2.1 (54, 8) (by simp [mnL])
theorem MSh.n55 (hM : MSh m h) : gN h (m + 55) = 24 := hM.2.2.1 (55, 24) (by simp [mnL])
theorem MSh.n56 (hM : MSh m h) : gN h (m + 56) = 24 := hM.2.2.1 (56, 24) (by simp [mnL])
theorem MSh.n57 (hM : MSh m h) : gN h (m + 57) = 24 := hM.2.2.1 (57, 24) (by simp [mnL])
theorem MSh.n58 (hM : MSh m h) : gN h (m + 58) = 7 := hM.2.2.1 (58, 7) (by simp [mnL])
theorem MSh.rw (hM : MSh m h) {i : Nat} (hi : i < 8) : gR h (m + 4) i = some (m + (5 + i)) ∧ gK h (m + (5 + i)) = 9 ∧ gN h (m + (5 + i)) = 40 := hM.2.2.2.1 i hi
theorem MSh.th (hM : MSh m h) {i : Nat} (hi : i < 8) : gR h (m + 17) i = some (m + (18 + i)) ∧ gK h (m + (18 + i)) = 8 ∧ gN h (m + (18 + i)) = 7 := hM.2.2.2.2.1 i hi
theorem MSh.by (hM : MSh m h) {i : Nat} (hi : i < 24) : gR h (m + 26) i = some (m + (27 + i)) ∧ gK h (m + (27 + i)) = 8 ∧ gN h (m + (27 + i)) = 3 := hM.2.2.2.2.2 i hi
theorem MSh.fr {F : Nat → Nat → Prop} (hM : MSh m h) (q : Fr F h h1) (hF : ∀ a j, F a j → ¬ (a = m + 4 ∨ a = m + 17 ∨ a = m + 26) ∧ ¬ (a = m ∧ j ∈ mfL.map (fun q => q.1))) : MSh m h1 := by
  obtain ⟨q1, q2, q3, q4, q5, q6⟩ := hM
  refine ⟨fun w hw => ?_, fun w hw => q.k.trans (q2 w hw), fun w hw => q.n.trans (q3 w hw), fun i hi => ?_, fun i hi => ?_, fun i hi => ?_⟩
  · exact (q.r (fun z => (hF _ _ z).2 ⟨rfl, List.mem_map.mpr ⟨w, hw, rfl⟩⟩)).trans (q1 w hw)
  · obtain ⟨e1, e2, e3⟩ := q4 i hi
    exact ⟨(q.r (fun z => (hF _ _ z).1 (Or.inl rfl))).trans e1, q.k.trans e2, q.n.trans e3⟩
  · obtain ⟨e1, e2, e3⟩ := q5 i hi
    exact ⟨(q.r (fun z => (hF _ _ z).1 (Or.inr (Or.inl rfl)))).trans e1, q.k.trans e2, q.n.trans e3⟩
  · obtain ⟨e1, e2, e3⟩ := q6 i hi
    exact ⟨(q.r (fun z => (hF _ _ z).1 (Or.inr (Or.inr rfl)))).trans e1, q.k.trans e2, q.n.trans e3⟩
end
