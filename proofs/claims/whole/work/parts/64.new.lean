/-! OBJECTS UNDER CONSTRUCTION (printed by gen30.py from new.tmpl) -/
section
variable (h : Hp) (K N n Ko Ki k b j : Nat)
theorem gI_mk1 : gI (mk1 h K N n) b j = if b = gX h then 0 else gI h b j := rfl
theorem gJ_mk1 : gJ (mk1 h K N n) b j = if b = gX h then 0 else gJ h b j := rfl
theorem gR_mk1 : gR (mk1 h K N n) b j = if b = gX h then none else gR h b j := rfl
theorem gK_mk1 : gK (mk1 h K N n) b = if b = gX h then K else gK h b := rfl
theorem gN_mk1 : gN (mk1 h K N n) b = if b = gX h then N else gN h b := rfl
theorem gI_mk2 : gI (mk2 h Ko Ki n k) b j = if gX h ≤ b ∧ b < gX h + 1 + n then 0 else gI h b j := rfl
theorem gJ_mk2 : gJ (mk2 h Ko Ki n k) b j = if gX h ≤ b ∧ b < gX h + 1 + n then 0 else gJ h b j := rfl
theorem gR_mk2 : gR (mk2 h Ko Ki n k) b j = if b = gX h then (if j < n then some (gX h + 1 + j) else none) else if gX h < b ∧ b < gX h + 1 + n then none else gR h b j := rfl
theorem gK_mk2 : gK (mk2 h Ko Ki n k) b = if b = gX h then Ko else if gX h < b ∧ b < gX h + 1 + n then Ki else gK h b := rfl
theorem gN_mk2 : gN (mk2 h Ko Ki n k) b = if b = gX h then n else if gX h < b ∧ b < gX h + 1 + n then k else gN h b := rfl
end
theorem Ag.mk1 {n K N s : Nat} {h0 h : Hp} (w : Ag n h0 h) (hn : n ≤ gX h) : Ag n h0 (mk1 h K N s) := w.tr (fun a ha => ⟨if_neg (by omega), if_neg (by omega), fun j => ⟨if_neg (by omega), if_neg (by omega), if_neg (by omega)⟩⟩)
theorem Ag.mk2 {n Ko Ki s k : Nat} {h0 h : Hp} (w : Ag n h0 h) (hn : n ≤ gX h) : Ag n h0 (mk2 h Ko Ki s k) := w.tr (fun a ha => ⟨by rw [gK_mk2, if_neg (by omega), if_neg (by omega)], by rw [gN_mk2, if_neg (by omega), if_neg (by omega)], fun j => ⟨if_neg (by omega), if_neg (by omega), by rw [gR_mk2, if_neg (by omega), if_neg (by omega)]⟩⟩)
theorem Ag.pI {n a j : Nat} {v : Int32} {h0 h : Hp} (w : Ag n h0 h) (hn : n ≤ a) : Ag n h0 (pI h a j v) := w.tr (fun x hx => ⟨rfl, rfl, fun i => ⟨gI_ne (by omega), rfl, rfl⟩⟩)
theorem Ag.pR {n a j : Nat} {v : Option Nat} {h0 h : Hp} (w : Ag n h0 h) (hn : n ≤ a) : Ag n h0 (pR h a j v) := w.tr (fun x hx => ⟨rfl, rfl, fun i => ⟨rfl, rfl, gR_ne (by omega)⟩⟩)
def NB (m c sl : Nat) (fl kl nl : List (Nat × Nat)) (rl : List (Nat × Nat × Nat × Nat)) (fi : Nat → Int32) (h0 h : Hp) : Prop :=
  gX h0 = m ∧ gX h = m + c ∧ 1 ≤ c ∧ gS h = gS h0 + sl ∧ Ag m h0 h ∧ (∀ q ∈ fl, gR h m q.1 = some (m + q.2)) ∧ (∀ j, (∀ q ∈ fl, q.1 ≠ j) → gR h m j = none) ∧ (∀ q ∈ kl, q.1 < c ∧ gK h (m + q.1) = q.2) ∧ (∀ q ∈ nl, q.1 < c ∧ gN h (m + q.1) = q.2) ∧
  (∀ q ∈ rl, 1 ≤ q.1 ∧ q.1 + 1 + q.2.1 ≤ c ∧ ∀ i, i < q.2.1 → gR h (m + q.1) i = some (m + (q.1 + 1 + i)) ∧ gK h (m + (q.1 + 1 + i)) = q.2.2.1 ∧ gN h (m + (q.1 + 1 + i)) = q.2.2.2) ∧ (∀ a, m < a → a < m + c → ∀ j, gI h a j = 0 ∧ gJ h a j = 0) ∧ ∀ j, gI h m j = fi j
section
variable {m c sl : Nat} {fl kl nl : List (Nat × Nat)} {rl : List (Nat × Nat × Nat × Nat)} {fi : Nat → Int32} {h0 h : Hp}
theorem NB.new {K0 nf : Nat} (hm : gX h0 = m) : NB m 1 nf [] [(0, K0)] [] [] (fun _ => 0) h0 (mk1 h0 K0 0 nf) := by
  subst hm
  refine ⟨rfl, rfl, Nat.le_refl _, rfl, Ag.rf.mk1 (Nat.le_refl _), fun q hq => (by cases hq), fun j _ => if_pos rfl, fun q hq => ?_, fun q hq => (by cases hq), fun q hq => (by cases hq), fun a h1 h2 => absurd h2 (by omega), fun j => if_pos rfl⟩
  rw [List.mem_singleton] at hq
  subst hq
  exact ⟨Nat.zero_lt_one, if_pos rfl⟩
theorem NB.k0 {k0 : Nat} (N : NB m c sl fl kl nl rl fi h0 h) (hk : (0, k0) ∈ kl) : gK h m = k0 := (N.2.2.2.2.2.2.2.1 _ hk).2
theorem NB.kA {K n k0 : Nat} (N : NB m c sl fl kl nl rl fi h0 h) (hk : (0, k0) ∈ kl) : gK (mk1 h K n n) m = k0 := by
  have h1 := N.2.1
  have h2 := N.2.2.1
  rw [gK_mk1, if_neg (by omega)]
  exact N.k0 hk
theorem NB.kM {Ko Ki n k k0 : Nat} (N : NB m c sl fl kl nl rl fi h0 h) (hk : (0, k0) ∈ kl) : gK (mk2 h Ko Ki n k) m = k0 := by
  have h1 := N.2.1
  have h2 := N.2.2.1
  rw [gK_mk2, if_neg (by omega), if_neg (by omega)]
  exact N.k0 hk
theorem NB.arr {K n f : Nat} (N : NB m c sl fl kl nl rl fi h0 h) (hf : ∀ q ∈ fl, q.1 ≠ f) : NB m (c + 1) (sl + n) ((f, c) :: fl) ((c, K) :: kl) ((c, n) :: nl) rl fi h0 (pR (mk1 h K n n) m f (some (gX h))) := by
  obtain ⟨n1, n2, n3, n4, n5, n6, n7, n8, n9, n10, n11, n12⟩ := N
  refine ⟨n1, ?_, by omega, ?_, (n5.mk1 (by omega)).pR (Nat.le_refl _), fun q hq => ?_, fun j hj => ?_, fun q hq => ?_, fun q hq => ?_, fun q hq => ?_, fun a h1 h2 j => ?_, fun j => ?_⟩
  · show gX h + 1 = _
    omega
  · show gS h + n = _
    omega
  · rcases List.mem_cons.mp hq with rfl | hq
    · rw [gR_at, n2]
    · rw [gR_ne (fun z => hf q hq z.2), gR_mk1, if_neg (by omega)]
      exact n6 q hq
  · have h1 : f ≠ j := hj (f, c) (List.mem_cons_self ..)
    rw [gR_ne (fun z => h1 z.2.symm), gR_mk1, if_neg (by omega)]
    exact n7 j (fun q hq => hj q (List.mem_cons_of_mem _ hq))
  · show _ ∧ gK (mk1 h K n n) _ = _
    rcases List.mem_cons.mp hq with rfl | hq
    · exact ⟨by show c < c + 1; omega, by rw [gK_mk1, if_pos n2.symm]⟩
    · obtain ⟨e1, e2⟩ := n8 q hq
      exact ⟨by omega, by rw [gK_mk1, if_neg (by omega)]; exact e2⟩
  · show _ ∧ gN (mk1 h K n n) _ = _
    rcases List.mem_cons.mp hq with rfl | hq
    · exact ⟨by show c < c + 1; omega, by rw [gN_mk1, if_pos n2.symm]⟩
    · obtain ⟨e1, e2⟩ := n9 q hq
      exact ⟨by omega, by rw [gN_mk1, if_neg (by omega)]; exact e2⟩
  · obtain ⟨e1, e2, e3⟩ := n10 q hq
    refine ⟨e1, by omega, fun i hi => ?_⟩
    obtain ⟨x1, x2, x3⟩ := e3 i hi
    refine ⟨?_, ?_, ?_⟩
    · rw [gR_ne (by omega), gR_mk1, if_neg (by omega)]; exact x1
    · show gK (mk1 h K n n) _ = _
      rw [gK_mk1, if_neg (by omega)]; exact x2
    · show gN (mk1 h K n n) _ = _
      rw [gN_mk1, if_neg (by omega)]; exact x3
  · show gI (mk1 h K n n) _ _ = 0 ∧ gJ (mk1 h K n n) _ _ = 0
    rw [gI_mk1, gJ_mk1]
    by_cases e : a = gX h
    · rw [if_pos e, if_pos e]; exact ⟨rfl, rfl⟩
    · rw [if_neg e, if_neg e]; exact n11 a h1 (by omega) j
  · show gI (mk1 h K n n) _ _ = _
    rw [gI_mk1, if_neg (by omega)]; exact n12 j
theorem NB.mat {Ko Ki n k f : Nat} (N : NB m c sl fl kl nl rl fi h0 h) (hf : ∀ q ∈ fl, q.1 ≠ f) : NB m (c + 1 + n) (sl + n + n * k) ((f, c) :: fl) ((c, Ko) :: kl) ((c, n) :: nl) ((c, n, Ki, k) :: rl) fi h0 (pR (mk2 h Ko Ki n k) m f (some (gX h))) := by
  obtain ⟨n1, n2, n3, n4, n5, n6, n7, n8, n9, n10, n11, n12⟩ := N
  refine ⟨n1, ?_, by omega, ?_, (n5.mk2 (by omega)).pR (Nat.le_refl _), fun q hq => ?_, fun j hj => ?_, fun q hq => ?_, fun q hq => ?_, fun q hq => ?_, fun a h1 h2 j => ?_, fun j => ?_⟩
  · show gX h + 1 + n = _
    omega
  · show gS h + n + n * k = _
    omega
  · rcases List.mem_cons.mp hq with rfl | hq
    · rw [gR_at, n2]
    · rw [gR_ne (fun z => hf q hq z.2), gR_mk2, if_neg (by omega), if_neg (by omega)]
      exact n6 q hq
  · have h1 : f ≠ j := hj (f, c) (List.mem_cons_self ..)
    rw [gR_ne (fun z => h1 z.2.symm), gR_mk2, if_neg (by omega), if_neg (by omega)]
    exact n7 j (fun q hq => hj q (List.mem_cons_of_mem _ hq))
  · show _ ∧ gK (mk2 h Ko Ki n k) _ = _
    rcases List.mem_cons.mp hq with rfl | hq
    · exact ⟨by show c < c + 1 + n; omega, by rw [gK_mk2, if_pos n2.symm]⟩
    · obtain ⟨e1, e2⟩ := n8 q hq
      exact ⟨by omega, by rw [gK_mk2, if_neg (by omega), if_neg (by omega)]; exact e2⟩
  · show _ ∧ gN (mk2 h Ko Ki n k) _ = _
    rcases List.mem_cons.mp hq with rfl | hq
    · exact ⟨by show c < c + 1 + n; omega, by rw [gN_mk2, if_pos n2.symm]⟩
    · obtain ⟨e1, e2⟩ := n9 q hq
      exact ⟨by omega, by rw [gN_mk2, if_neg (by omega), if_neg (by omega)]; exact e2⟩
  · rcases List.mem_cons.mp hq with rfl | hq
    · refine ⟨n3, Nat.le_refl _, fun i hi => ?_⟩
      have hi' : i < n := hi
      refine ⟨?_, ?_, ?_⟩
      · show gR _ (m + c) i = some (m + (c + 1 + i))
        rw [gR_ne (by omega), gR_mk2, if_pos n2.symm, if_pos hi', n2]
        congr 1
        omega
      · show gK (mk2 h Ko Ki n k) (m + (c + 1 + i)) = Ki
        rw [gK_mk2, if_neg (by omega), if_pos (by omega)]
      · show gN (mk2 h Ko Ki n k) (m + (c + 1 + i)) = k
        rw [gN_mk2, if_neg (by omega), if_pos (by omega)]
    · obtain ⟨e1, e2, e3⟩ := n10 q hq
      refine ⟨e1, by omega, fun i hi => ?_⟩
      obtain ⟨x1, x2, x3⟩ := e3 i hi
      refine ⟨?_, ?_, ?_⟩
      · rw [gR_ne (by omega), gR_mk2, if_neg (by omega), if_neg (by omega)]; exact x1
      · show gK (mk2 h Ko Ki n k) _ = _
        rw [gK_mk2, if_neg (by omega), if_neg (by omega)]; exact x2
      · show gN (mk2 h Ko Ki n k) _ = _
        rw [gN_mk2, if_neg (by omega), if_neg (by omega)]; exact x3
  · show gI (mk2 h Ko Ki n k) _ _ = 0 ∧ gJ (mk2 h Ko Ki n k) _ _ = 0
    rw [gI_mk2, gJ_mk2]
    by_cases e : gX h ≤ a ∧ a < gX h + 1 + n
    · rw [if_pos e, if_pos e]; exact ⟨rfl, rfl⟩
    · rw [if_neg e, if_neg e]; exact n11 a h1 (by omega) j
  · show gI (mk2 h Ko Ki n k) _ _ = _
    rw [gI_mk2, if_neg (by omega)]; exact n12 j
theorem NB.int {f : Nat} {v : Int32} (N : NB m c sl fl kl nl rl fi h0 h) : NB m c sl fl kl nl rl (up fi f v) h0 (pI h m f v) := by
  obtain ⟨n1, n2, n3, n4, n5, n6, n7, n8, n9, n10, n11, n12⟩ := N
  refine ⟨n1, n2, n3, n4, n5.pI (Nat.le_refl _), n6, n7, n8, n9, n10, fun a h1 h2 j => ⟨?_, (n11 a h1 h2 j).2⟩, fun j => ?_⟩
  · rw [gI_ne (by omega)]
    exact (n11 a h1 h2 j).1
  · by_cases e : j = f
    · subst e
      rw [gI_at, up_at]
    · rw [gI_ne (fun z => e z.2), up_ne e]
      exact n12 j
theorem NB.f (N : NB m c sl fl kl nl rl fi h0 h) {q : Nat × Nat} (hq : q ∈ fl) : gR h m q.1 = some (m + q.2) := N.2.2.2.2.2.1 q hq
theorem NB.kk (N : NB m c sl fl kl nl rl fi h0 h) {q : Nat × Nat} (hq : q ∈ kl) : gK h (m + q.1) = q.2 := (N.2.2.2.2.2.2.2.1 q hq).2
theorem NB.nn (N : NB m c sl fl kl nl rl fi h0 h) {q : Nat × Nat} (hq : q ∈ nl) : gN h (m + q.1) = q.2 := (N.2.2.2.2.2.2.2.2.1 q hq).2
theorem NB.rr (N : NB m c sl fl kl nl rl fi h0 h) {q : Nat × Nat × Nat × Nat} (hq : q ∈ rl) {i : Nat} (hi : i < q.2.1) : gR h (m + q.1) i = some (m + (q.1 + 1 + i)) ∧ gK h (m + (q.1 + 1 + i)) = q.2.2.1 ∧ gN h (m + (q.1 + 1 + i)) = q.2.2.2 := (N.2.2.2.2.2.2.2.2.2.1 q hq).2.2 i hi
theorem NB.z (N : NB m c sl fl kl nl rl fi h0 h) {a : Nat} (h1 : m < a) (h2 : a < m + c) (j : Nat) : gI h a j = 0 ∧ gJ h a j = 0 := N.2.2.2.2.2.2.2.2.2.2.1 a h1 h2 j
theorem NB.ii (N : NB m c sl fl kl nl rl fi h0 h) (j : Nat) : gI h m j = fi j := N.2.2.2.2.2.2.2.2.2.2.2 j
theorem NB.no (N : NB m c sl fl kl nl rl fi h0 h) {j : Nat} (hj : ∀ q ∈ fl, q.1 ≠ j) : gR h m j = none := N.2.2.2.2.2.2.1 j hj
end
/-- the state of a new object -/
def s0G : SG := (0, 0, fun _ _ => 0, fun _ _ => 0, fun k => if k = 0 then 9 else if k = 3 then 1 else 0)
def A0 : XA := (s0G, (0, 0, 1), none, (0, fun _ => 0), fun _ => (none, 0, fun _ => 0), fun _ => 0)
theorem s0_ok : SOk s0G := ⟨Nat.zero_le _, Nat.zero_le _, fun t ht => absurd ht (Nat.not_lt_zero t), fun t ht => absurd ht (Nat.not_lt_zero t), fun b c _ hc => absurd hc (Nat.not_lt_zero c), by decide, by decide, by decide, by decide, by decide⟩
theorem A0_wf : WF A0 := ⟨s0_ok, fun k hk => (by cases hk), Nat.zero_le _, fun j hj => absurd hj (Nat.not_lt_zero j), fun i _ => ⟨Nat.zero_le _, fun k hk => (by cases hk)⟩⟩
section
variable {m : Nat} {h0 : Hp} {K : Option Value → Hp → Prop}
set_option maxHeartbeats 4000000 in
theorem n133 (hm : gX h0 = m) (kk : ∀ h2, gX h2 = m + 59 → gS h2 = gS h0 + 962 → Ag m h0 h2 → MR m (none, none, none) A0 h2 → K none h2) : AM 133 [.ref m] (mk1 h0 7 0 41) K := by
  obtain ⟨x0, hx0⟩ : ∃ x, x = mk1 h0 7 0 41 := ⟨_, rfl⟩
  have N0 : NB m 1 41 [] [(0, 7)] [] [] (fun _ => 0) h0 x0 := by rw [hx0]; exact NB.new hm
  rw [← hx0]
  simp only [e133, v133_0, v133_1]
  have hK0 := N0.kA (K := 8) (n := 8) (k0 := 7) (by simp)
  simp only [v133_4, v133_5, v133_7, v133_9, hK0, true_and]
  obtain ⟨x1, hx1⟩ : ∃ x, x = pR (mk1 x0 8 8 8) m 0 (some (gX x0)) := ⟨_, rfl⟩
  have N1 : NB m 2 49 [(0, 1)] [(1, 8), (0, 7)] [(1, 8)] [] (fun _ => 0) h0 x1 := by rw [hx1]; exact N0.arr (K := 8) (n := 8) (f := 0) (by decide)
  rw [← hx1]
  have hK1 := N1.kA (K := 8) (n := 8) (k0 := 7) (by simp)
  simp only [v133_12, v133_13, v133_15, v133_17, hK1, true_and]
  obtain ⟨x2, hx2⟩ : ∃ x, x = pR (mk1 x1 8 8 8) m 1 (some (gX x1)) := ⟨_, rfl⟩
  have N2 : NB m 3 57 [(1, 2), (0, 1)] [(2, 8), (1, 8), (0, 7)] [(2, 8), (1, 8)] [] (fun _ => 0) h0 x2 := by rw [hx2]; exact N1.arr (K := 8) (n := 8) (f := 1) (by decide)
  rw [← hx2]
  have hK2 := N2.kA (K := 8) (n := 8) (k0 := 7) (by simp)
  simp only [v133_20, v133_21, v133_23, v133_25, hK2, true_and]
  obtain ⟨x3, hx3⟩ : ∃ x, x = pR (mk1 x2 8 8 8) m 2 (some (gX x2)) := ⟨_, rfl⟩
  have N3 : NB m 4 65 [(2, 3), (1, 2), (0, 1)] [(3, 8), (2, 8), (1, 8), (0, 7)] [(3, 8), (2, 8), (1, 8)] [] (fun _ => 0) h0 x3 := by rw [hx3]; exact N2.arr (K := 8) (n := 8) (f := 2) (by decide)
  rw [← hx3]
  have hK3 := N3.kM (Ko := 13) (Ki := 9) (n := 8) (k := 40) (k0 := 7) (by simp)
  simp only [v133_28, v133_29, v133_31, v133_33, v133_37, hK3, true_and]
  obtain ⟨x4, hx4⟩ : ∃ x, x = pR (mk2 x3 13 9 8 40) m 3 (some (gX x3)) := ⟨_, rfl⟩
  have N4 : NB m 13 393 [(3, 4), (2, 3), (1, 2), (0, 1)] [(4, 13), (3, 8), (2, 8), (1, 8), (0, 7)] [(4, 8), (3, 8), (2, 8), (1, 8)] [(4, 8, 9, 40)] (fun _ => 0) h0 x4 := by rw [hx4]; exact N3.mat (Ko := 13) (Ki := 9) (n := 8) (k := 40) (f := 3) (by decide)
  rw [← hx4]
  have hK4 := N4.kA (K := 9) (n := 40) (k0 := 7) (by simp)
  simp only [v133_40, v133_41, v133_43, v133_45, hK4, true_and]
  obtain ⟨x5, hx5⟩ : ∃ x, x = pR (mk1 x4 9 40 40) m 4 (some (gX x4)) := ⟨_, rfl⟩
  have N5 : NB m 14 433 [(4, 13), (3, 4), (2, 3), (1, 2), (0, 1)] [(13, 9), (4, 13), (3, 8), (2, 8), (1, 8), (0, 7)] [(13, 40), (4, 8), (3, 8), (2, 8), (1, 8)] [(4, 8, 9, 40)] (fun _ => 0) h0 x5 := by rw [hx5]; exact N4.arr (K := 9) (n := 40) (f := 4) (by decide)
  rw [← hx5]
  have hK5 := N5.kA (K := 8) (n := 8) (k0 := 7) (by simp)
  simp only [v133_48, v133_49, v133_51, v133_53, hK5, true_and]
  obtain ⟨x6, hx6⟩ : ∃ x, x = pR (mk1 x5 8 8 8) m 5 (some (gX x5)) := ⟨_, rfl⟩
  have N6 : NB m 15 441 [(5, 14), (4, 13), (3, 4), (2, 3), (1, 2), (0, 1)] [(14, 8), (13, 9), (4, 13), (3, 8), (2, 8), (1, 8), (0, 7)] [(14, 8), (13, 40), (4, 8), (3, 8), (2, 8), (1, 8)] [(4, 8, 9, 40)] (fun _ => 0) h0 x6 := by rw [hx6]; exact N5.arr (K := 8) (n := 8) (f := 5) (by decide)
  rw [← hx6]
  have hK6 := N6.kA (K := 8) (n := 250) (k0 := 7) (by simp)
  simp only [v133_56, v133_57, v133_60, v133_62, hK6, true_and]
  obtain ⟨x7, hx7⟩ : ∃ x, x = pR (mk1 x6 8 250 250) m 6 (some (gX x6)) := ⟨_, rfl⟩
  have N7 : NB m 16 691 [(6, 15), (5, 14), (4, 13), (3, 4), (2, 3), (1, 2), (0, 1)] [(15, 8), (14, 8), (13, 9), (4, 13), (3, 8), (2, 8), (1, 8), (0, 7)] [(15, 250), (14, 8), (13, 40), (4, 8), (3, 8), (2, 8), (1, 8)] [(4, 8, 9, 40)] (fun _ => 0) h0 x7 := by rw [hx7]; exact N6.arr (K := 8) (n := 250) (f := 6) (by decide)
  rw [← hx7]
  have hK7 := N7.kA (K := 8) (n := 8) (k0 := 7) (by simp)
  simp only [v133_65, v133_66, v133_68, v133_70, hK7, true_and]
  obtain ⟨x8, hx8⟩ : ∃ x, x = pR (mk1 x7 8 8 8) m 8 (some (gX x7)) := ⟨_, rfl⟩
  have N8 : NB m 17 699 [(8, 16), (6, 15), (5, 14), (4, 13), (3, 4), (2, 3), (1, 2), (0, 1)] [(16, 8), (15, 8), (14, 8), (13, 9), (4, 13), (3, 8), (2, 8), (1, 8), (0, 7)] [(16, 8), (15, 250), (14, 8), (13, 40), (4, 8), (3, 8), (2, 8), (1, 8)] [(4, 8, 9, 40)] (fun _ => 0) h0 x8 := by rw [hx8]; exact N7.arr (K := 8) (n := 8) (f := 8) (by decide)
  rw [← hx8]
  have hK8 := N8.kM (Ko := 12) (Ki := 8) (n := 8) (k := 7) (k0 := 7) (by simp)
  simp only [v133_73, v133_74, v133_76, v133_78, v133_82, hK8, true_and]
  obtain ⟨x9, hx9⟩ : ∃ x, x = pR (mk2 x8 12 8 8 7) m 10 (some (gX x8)) := ⟨_, rfl⟩
  have N9 : NB m 26 763 [(10, 17), (8, 16), (6, 15), (5, 14), (4, 13), (3, 4), (2, 3), (1, 2), (0, 1)] [(17, 12), (16, 8), (15, 8), (14, 8), (13, 9), (4, 13), (3, 8), (2, 8), (1, 8), (0, 7)] [(17, 8), (16, 8), (15, 250), (14, 8), (13, 40), (4, 8), (3, 8), (2, 8), (1, 8)] [(17, 8, 8, 7), (4, 8, 9, 40)] (fun _ => 0) h0 x9 := by rw [hx9]; exact N8.mat (Ko := 12) (Ki := 8) (n := 8) (k := 7) (f := 10) (by decide)
  rw [← hx9]
  have hK9 := N9.kM (Ko := 12) (Ki := 8) (n := 24) (k := 3) (k0 := 7) (by simp)
  simp only [v133_85, v133_86, v133_88, v133_89, v133_93, hK9, true_and]
  obtain ⟨x10, hx10⟩ : ∃ x, x = pR (mk2 x9 12 8 24 3) m 12 (some (gX x9)) := ⟨_, rfl⟩
  have N10 : NB m 51 859 [(12, 26), (10, 17), (8, 16), (6, 15), (5, 14), (4, 13), (3, 4), (2, 3), (1, 2), (0, 1)] [(26, 12), (17, 12), (16, 8), (15, 8), (14, 8), (13, 9), (4, 13), (3, 8), (2, 8), (1, 8), (0, 7)] [(26, 24), (17, 8), (16, 8), (15, 250), (14, 8), (13, 40), (4, 8), (3, 8), (2, 8), (1, 8)] [(26, 24, 8, 3), (17, 8, 8, 7), (4, 8, 9, 40)] (fun _ => 0) h0 x10 := by rw [hx10]; exact N9.mat (Ko := 12) (Ki := 8) (n := 24) (k := 3) (f := 12) (by decide)
  rw [← hx10]
  have hK10 := N10.kA (K := 8) (n := 4) (k0 := 7) (by simp)
  simp only [v133_96, v133_97, v133_98, v133_100, hK10, true_and]
  obtain ⟨x11, hx11⟩ : ∃ x, x = pR (mk1 x10 8 4 4) m 13 (some (gX x10)) := ⟨_, rfl⟩
  have N11 : NB m 52 863 [(13, 51), (12, 26), (10, 17), (8, 16), (6, 15), (5, 14), (4, 13), (3, 4), (2, 3), (1, 2), (0, 1)] [(51, 8), (26, 12), (17, 12), (16, 8), (15, 8), (14, 8), (13, 9), (4, 13), (3, 8), (2, 8), (1, 8), (0, 7)] [(51, 4), (26, 24), (17, 8), (16, 8), (15, 250), (14, 8), (13, 40), (4, 8), (3, 8), (2, 8), (1, 8)] [(26, 24, 8, 3), (17, 8, 8, 7), (4, 8, 9, 40)] (fun _ => 0) h0 x11 := by rw [hx11]; exact N10.arr (K := 8) (n := 4) (f := 13) (by decide)
  rw [← hx11]
  have hK11 := N11.k0 (k0 := 7) (by simp)
  simp only [v133_103, v133_104, v133_105, hK11, true_and]
  obtain ⟨x12, hx12⟩ : ∃ x, x = pI x11 m 16 1 := ⟨_, rfl⟩
  have N12 : NB m 52 863 [(13, 51), (12, 26), (10, 17), (8, 16), (6, 15), (5, 14), (4, 13), (3, 4), (2, 3), (1, 2), (0, 1)] [(51, 8), (26, 12), (17, 12), (16, 8), (15, 8), (14, 8), (13, 9), (4, 13), (3, 8), (2, 8), (1, 8), (0, 7)] [(51, 4), (26, 24), (17, 8), (16, 8), (15, 250), (14, 8), (13, 40), (4, 8), (3, 8), (2, 8), (1, 8)] [(26, 24, 8, 3), (17, 8, 8, 7), (4, 8, 9, 40)] (up (fun _ => 0) 16 1) h0 x12 := by rw [hx12]; exact N11.int
  rw [← hx12]
  have hK12 := N12.kA (K := 8) (n := 4) (k0 := 7) (by simp)
  simp only [v133_108, v133_109, v133_110, v133_112, hK12, true_and]
  obtain ⟨x13, hx13⟩ : ∃ x, x = pR (mk1 x12 8 4 4) m 25 (some (gX x12)) := ⟨_, rfl⟩
  have N13 : NB m 53 867 [(25, 52), (13, 51), (12, 26), (10, 17), (8, 16), (6, 15), (5, 14), (4, 13), (3, 4), (2, 3), (1, 2), (0, 1)] [(52, 8), (51, 8), (26, 12), (17, 12), (16, 8), (15, 8), (14, 8), (13, 9), (4, 13), (3, 8), (2, 8), (1, 8), (0, 7)] [(52, 4), (51, 4), (26, 24), (17, 8), (16, 8), (15, 250), (14, 8), (13, 40), (4, 8), (3, 8), (2, 8), (1, 8)] [(26, 24, 8, 3), (17, 8, 8, 7), (4, 8, 9, 40)] (up (fun _ => 0) 16 1) h0 x13 := by rw [hx13]; exact N12.arr (K := 8) (n := 4) (f := 25) (by decide)
  rw [← hx13]
  have hK13 := N13.kA (K := 10) (n := 8) (k0 := 7) (by simp)
  simp only [v133_115, v133_116, v133_118, v133_120, hK13, true_and]
  obtain ⟨x14, hx14⟩ : ∃ x, x = pR (mk1 x13 10 8 8) m 27 (some (gX x13)) := ⟨_, rfl⟩
  have N14 : NB m 54 875 [(27, 53), (25, 52), (13, 51), (12, 26), (10, 17), (8, 16), (6, 15), (5, 14), (4, 13), (3, 4), (2, 3), (1, 2), (0, 1)] [(53, 10), (52, 8), (51, 8), (26, 12), (17, 12), (16, 8), (15, 8), (14, 8), (13, 9), (4, 13), (3, 8), (2, 8), (1, 8), (0, 7)] [(53, 8), (52, 4), (51, 4), (26, 24), (17, 8), (16, 8), (15, 250), (14, 8), (13, 40), (4, 8), (3, 8), (2, 8), (1, 8)] [(26, 24, 8, 3), (17, 8, 8, 7), (4, 8, 9, 40)] (up (fun _ => 0) 16 1) h0 x14 := by rw [hx14]; exact N13.arr (K := 10) (n := 8) (f := 27) (by decide)
  rw [← hx14]
  have hK14 := N14.kA (K := 10) (n := 8) (k0 := 7) (by simp)
  simp only [v133_123, v133_124, v133_126, v133_128, hK14, true_and]
  obtain ⟨x15, hx15⟩ : ∃ x, x = pR (mk1 x14 10 8 8) m 28 (some (gX x14)) := ⟨_, rfl⟩
  have N15 : NB m 55 883 [(28, 54), (27, 53), (25, 52), (13, 51), (12, 26), (10, 17), (8, 16), (6, 15), (5, 14), (4, 13), (3, 4), (2, 3), (1, 2), (0, 1)] [(54, 10), (53, 10), (52, 8), (51, 8), (26, 12), (17, 12), (16, 8), (15, 8), (14, 8), (13, 9), (4, 13), (3, 8), (2, 8), (1, 8), (0, 7)] [(54, 8), (53, 8), (52, 4), (51, 4), (26, 24), (17, 8), (16, 8), (15, 250), (14, 8), (13, 40), (4, 8), (3, 8), (2, 8), (1, 8)] [(26, 24, 8, 3), (17, 8, 8, 7), (4, 8, 9, 40)] (up (fun _ => 0) 16 1) h0 x15 := by rw [hx15]; exact N14.arr (K := 10) (n := 8) (f := 28) (by decide)
  rw [← hx15]
  have hK15 := N15.k0 (k0 := 7) (by simp)
  simp only [v133_131, v133_132, v133_134, hK15, true_and]
  obtain ⟨x16, hx16⟩ : ∃ x, x = pI x15 m 29 7 := ⟨_, rfl⟩
  have N16 : NB m 55 883 [(28, 54), (27, 53), (25, 52), (13, 51), (12, 26), (10, 17), (8, 16), (6, 15), (5, 14), (4, 13), (3, 4), (2, 3), (1, 2), (0, 1)] [(54, 10), (53, 10), (52, 8), (51, 8), (26, 12), (17, 12), (16, 8), (15, 8), (14, 8), (13, 9), (4, 13), (3, 8), (2, 8), (1, 8), (0, 7)] [(54, 8), (53, 8), (52, 4), (51, 4), (26, 24), (17, 8), (16, 8), (15, 250), (14, 8), (13, 40), (4, 8), (3, 8), (2, 8), (1, 8)] [(26, 24, 8, 3), (17, 8, 8, 7), (4, 8, 9, 40)] (up (up (fun _ => 0) 16 1) 29 7) h0 x16 := by rw [hx16]; exact N15.int
  rw [← hx16]
  have hK16 := N16.k0 (k0 := 7) (by simp)
  simp only [v133_137, v133_138, v133_139, hK16, true_and]
  obtain ⟨x17, hx17⟩ : ∃ x, x = pI x16 m 30 (-1) := ⟨_, rfl⟩
  have N17 : NB m 55 883 [(28, 54), (27, 53), (25, 52), (13, 51), (12, 26), (10, 17), (8, 16), (6, 15), (5, 14), (4, 13), (3, 4), (2, 3), (1, 2), (0, 1)] [(54, 10), (53, 10), (52, 8), (51, 8), (26, 12), (17, 12), (16, 8), (15, 8), (14, 8), (13, 9), (4, 13), (3, 8), (2, 8), (1, 8), (0, 7)] [(54, 8), (53, 8), (52, 4), (51, 4), (26, 24), (17, 8), (16, 8), (15, 250), (14, 8), (13, 40), (4, 8), (3, 8), (2, 8), (1, 8)] [(26, 24, 8, 3), (17, 8, 8, 7), (4, 8, 9, 40)] (up (up (up (fun _ => 0) 16 1) 29 7) 30 (-1)) h0 x17 := by rw [hx17]; exact N16.int
  rw [← hx17]
  have hK17 := N17.k0 (k0 := 7) (by simp)
  simp only [v133_142, v133_143, v133_144, hK17, true_and]
  obtain ⟨x18, hx18⟩ : ∃ x, x = pI x17 m 32 (-1) := ⟨_, rfl⟩
  have N18 : NB m 55 883 [(28, 54), (27, 53), (25, 52), (13, 51), (12, 26), (10, 17), (8, 16), (6, 15), (5, 14), (4, 13), (3, 4), (2, 3), (1, 2), (0, 1)] [(54, 10), (53, 10), (52, 8), (51, 8), (26, 12), (17, 12), (16, 8), (15, 8), (14, 8), (13, 9), (4, 13), (3, 8), (2, 8), (1, 8), (0, 7)] [(54, 8), (53, 8), (52, 4), (51, 4), (26, 24), (17, 8), (16, 8), (15, 250), (14, 8), (13, 40), (4, 8), (3, 8), (2, 8), (1, 8)] [(26, 24, 8, 3), (17, 8, 8, 7), (4, 8, 9, 40)] (up (up (up (up (fun _ => 0) 16 1) 29 7) 30 (-1)) 32 (-1)) h0 x18 := by rw [hx18]; exact N17.int
  rw [← hx18]
  have hK18 := N18.k0 (k0 := 7) (by simp)
  simp only [v133_147, v133_148, v133_149, hK18, true_and]
  obtain ⟨x19, hx19⟩ : ∃ x, x = pI x18 m 35 (-1) := ⟨_, rfl⟩
  have N19 : NB m 55 883 [(28, 54), (27, 53), (25, 52), (13, 51), (12, 26), (10, 17), (8, 16), (6, 15), (5, 14), (4, 13), (3, 4), (2, 3), (1, 2), (0, 1)] [(54, 10), (53, 10), (52, 8), (51, 8), (26, 12), (17, 12), (16, 8), (15, 8), (14, 8), (13, 9), (4, 13), (3, 8), (2, 8), (1, 8), (0, 7)] [(54, 8), (53, 8), (52, 4), (51, 4), (26, 24), (17, 8), (16, 8), (15, 250), (14, 8), (13, 40), (4, 8), (3, 8), (2, 8), (1, 8)] [(26, 24, 8, 3), (17, 8, 8, 7), (4, 8, 9, 40)] (up (up (up (up (up (fun _ => 0) 16 1) 29 7) 30 (-1)) 32 (-1)) 35 (-1)) h0 x19 := by rw [hx19]; exact N18.int
  rw [← hx19]
  have hK19 := N19.kA (K := 10) (n := 24) (k0 := 7) (by simp)
  simp only [v133_152, v133_153, v133_155, v133_157, hK19, true_and]
  obtain ⟨x20, hx20⟩ : ∃ x, x = pR (mk1 x19 10 24 24) m 36 (some (gX x19)) := ⟨_, rfl⟩
  have N20 : NB m 56 907 [(36, 55), (28, 54), (27, 53), (25, 52), (13, 51), (12, 26), (10, 17), (8, 16), (6, 15), (5, 14), (4, 13), (3, 4), (2, 3), (1, 2), (0, 1)] [(55, 10), (54, 10), (53, 10), (52, 8), (51, 8), (26, 12), (17, 12), (16, 8), (15, 8), (14, 8), (13, 9), (4, 13), (3, 8), (2, 8), (1, 8), (0, 7)] [(55, 24), (54, 8), (53, 8), (52, 4), (51, 4), (26, 24), (17, 8), (16, 8), (15, 250), (14, 8), (13, 40), (4, 8), (3, 8), (2, 8), (1, 8)] [(26, 24, 8, 3), (17, 8, 8, 7), (4, 8, 9, 40)] (up (up (up (up (up (fun _ => 0) 16 1) 29 7) 30 (-1)) 32 (-1)) 35 (-1)) h0 x20 := by rw [hx20]; exact N19.arr (K := 10) (n := 24) (f := 36) (by decide)
  rw [← hx20]
  have hK20 := N20.kA (K := 8) (n := 24) (k0 := 7) (by simp)
  simp only [v133_160, v133_161, v133_163, v133_165, hK20, true_and]
  obtain ⟨x21, hx21⟩ : ∃ x, x = pR (mk1 x20 8 24 24) m 37 (some (gX x20)) := ⟨_, rfl⟩
  have N21 : NB m 57 931 [(37, 56), (36, 55), (28, 54), (27, 53), (25, 52), (13, 51), (12, 26), (10, 17), (8, 16), (6, 15), (5, 14), (4, 13), (3, 4), (2, 3), (1, 2), (0, 1)] [(56, 8), (55, 10), (54, 10), (53, 10), (52, 8), (51, 8), (26, 12), (17, 12), (16, 8), (15, 8), (14, 8), (13, 9), (4, 13), (3, 8), (2, 8), (1, 8), (0, 7)] [(56, 24), (55, 24), (54, 8), (53, 8), (52, 4), (51, 4), (26, 24), (17, 8), (16, 8), (15, 250), (14, 8), (13, 40), (4, 8), (3, 8), (2, 8), (1, 8)] [(26, 24, 8, 3), (17, 8, 8, 7), (4, 8, 9, 40)] (up (up (up (up (up (fun _ => 0) 16 1) 29 7) 30 (-1)) 32 (-1)) 35 (-1)) h0 x21 := by rw [hx21]; exact N20.arr (K := 8) (n := 24) (f := 37) (by decide)
  rw [← hx21]
  have hK21 := N21.kA (K := 8) (n := 24) (k0 := 7) (by simp)
  simp only [v133_168, v133_169, v133_171, v133_173, hK21, true_and]
  obtain ⟨x22, hx22⟩ : ∃ x, x = pR (mk1 x21 8 24 24) m 38 (some (gX x21)) := ⟨_, rfl⟩
  have N22 : NB m 58 955 [(38, 57), (37, 56), (36, 55), (28, 54), (27, 53), (25, 52), (13, 51), (12, 26), (10, 17), (8, 16), (6, 15), (5, 14), (4, 13), (3, 4), (2, 3), (1, 2), (0, 1)] [(57, 8), (56, 8), (55, 10), (54, 10), (53, 10), (52, 8), (51, 8), (26, 12), (17, 12), (16, 8), (15, 8), (14, 8), (13, 9), (4, 13), (3, 8), (2, 8), (1, 8), (0, 7)] [(57, 24), (56, 24), (55, 24), (54, 8), (53, 8), (52, 4), (51, 4), (26, 24), (17, 8), (16, 8), (15, 250), (14, 8), (13, 40), (4, 8), (3, 8), (2, 8), (1, 8)] [(26, 24, 8, 3), (17, 8, 8, 7), (4, 8, 9, 40)] (up (up (up (up (up (fun _ => 0) 16 1) 29 7) 30 (-1)) 32 (-1)) 35 (-1)) h0 x22 := by rw [hx22]; exact N21.arr (K := 8) (n := 24) (f := 38) (by decide)
  rw [← hx22]
  have hK22 := N22.kA (K := 8) (n := 7) (k0 := 7) (by simp)
  simp only [v133_176, v133_177, v133_179, v133_181, hK22, true_and]
  obtain ⟨x23, hx23⟩ : ∃ x, x = pR (mk1 x22 8 7 7) m 40 (some (gX x22)) := ⟨_, rfl⟩
  have N23 : NB m 59 962 [(40, 58), (38, 57), (37, 56), (36, 55), (28, 54), (27, 53), (25, 52), (13, 51), (12, 26), (10, 17), (8, 16), (6, 15), (5, 14), (4, 13), (3, 4), (2, 3), (1, 2), (0, 1)] [(58, 8), (57, 8), (56, 8), (55, 10), (54, 10), (53, 10), (52, 8), (51, 8), (26, 12), (17, 12), (16, 8), (15, 8), (14, 8), (13, 9), (4, 13), (3, 8), (2, 8), (1, 8), (0, 7)] [(58, 7), (57, 24), (56, 24), (55, 24), (54, 8), (53, 8), (52, 4), (51, 4), (26, 24), (17, 8), (16, 8), (15, 250), (14, 8), (13, 40), (4, 8), (3, 8), (2, 8), (1, 8)] [(26, 24, 8, 3), (17, 8, 8, 7), (4, 8, 9, 40)] (up (up (up (up (up (fun _ => 0) 16 1) 29 7) 30 (-1)) 32 (-1)) 35 (-1)) h0 x23 := by rw [hx23]; exact N22.arr (K := 8) (n := 7) (f := 40) (by decide)
  rw [← hx23]
  have k7 := N23.k0 (k0 := 7) (by simp)
  have f13 : gR x23 m 13 = some (m + 51) := N23.f (q := (13, 51)) (by decide)
  have k51 : gK x23 (m + 51) = 8 := N23.kk (q := (51, 8)) (by decide)
  have n51 : gN x23 (m + 51) = 4 := N23.nn (q := (51, 4)) (by decide)
  simp only [v133_184, v133_185, v133_188, v133_189, v133_191, v133_192, v133_193, v133_196, v133_197, v133_198, v133_199, k7, f13, k51, n51, vrf_s, gI_pJ, gI_pR, gJ_pI, gJ_pR, gR_pI, gR_pJ, gK_pI, gK_pJ, gK_pR, gN_pI, gN_pJ, gN_pR, gX_pI, gX_pJ, gX_pR, gS_pI, gS_pJ, gS_pR, gK_cpI, gN_cpI, gK_cpJ, gN_cpJ, gR_cpI, gR_cpJ, gJ_cpI, gI_cpJ, ib7_0, ib7_1, ib7_2, ib7_3, ib7_4, ib7_5, ib7_6, ib3_0, ib3_1, ib3_2, ib4_0, ib4_1, ib4_2, ib4_3, tc0, tc1, tc2, tc3, tc4, tc5, tc6, true_and, true_or, and_self]
  have hX : gX x23 = m + 59 := N23.2.1
  have z : ∀ a j, m < a → a ≠ m + 51 → a < m + 59 → gI (pI (pI x23 (m + 51) 0 9) (m + 51) 3 1) a j = 0 := fun a j h1 h2 h3 => by
    rw [gI_ne (by omega), gI_ne (by omega)]
    exact (N23.z h1 h3 j).1
  have f : ∀ j, gI (pI (pI x23 (m + 51) 0 9) (m + 51) 3 1) m j = gI x23 m j := fun j => by rw [gI_ne (by omega), gI_ne (by omega)]
  have fl1 : ∀ q ∈ mfL, gR x23 m q.1 = some (m + q.2) := fun q hq => N23.f (by revert q; decide)
  have fl2 : ∀ q ∈ mkL, gK x23 (m + q.1) = q.2 := fun q hq => N23.kk (by revert q; decide)
  have fl3 : ∀ q ∈ mnL, gN x23 (m + q.1) = q.2 := fun q hq => N23.nn (by revert q; decide)
  refine kk _ hX N23.2.2.2.1 ((N23.2.2.2.2.1.pI (by omega)).pI (by omega)) ⟨by show m + 59 ≤ gX x23; omega, ⟨fl1, fl2, fl3, fun i hi => N23.rr (q := (4, 8, 9, 40)) (by decide) hi, fun i hi => N23.rr (q := (17, 8, 8, 7)) (by decide) hi, fun i hi => N23.rr (q := (26, 24, 8, 3)) (by decide) hi⟩, ?_, ?_, ?_, ?_, ?_, ?_, ?_⟩
  · refine ⟨(f 29).trans (N23.ii 29), ⟨(f 30).trans (N23.ii 30), fun q hq => (by cases hq)⟩, (f 32).trans (N23.ii 32), fun q hq => (by cases hq), (f 35).trans (N23.ii 35)⟩
  · refine ⟨(f 9).trans (N23.ii 9), (f 11).trans (N23.ii 11), fun t ht => absurd ht (Nat.not_lt_zero t), fun t ht => absurd ht (Nat.not_lt_zero t), fun k hk => ?_⟩
    have z51 : ∀ j, gI x23 (m + 51) j = 0 := fun j => (N23.z (by omega) (by omega) j).1
    have : k = 0 ∨ k = 1 ∨ k = 2 ∨ k = 3 := by omega
    rcases this with rfl | rfl | rfl | rfl
    · rw [gI_ne (by omega), gI_at]; rfl
    · rw [gI_ne (by omega), gI_ne (by omega), z51]; rfl
    · rw [gI_ne (by omega), gI_ne (by omega), z51]; rfl
    · rw [gI_at]; rfl
  · exact ⟨(f 14).trans (N23.ii 14), (f 15).trans (N23.ii 15), (f 16).trans (N23.ii 16)⟩
  · exact fun i hi => ⟨z _ _ (by omega) (by omega) (by omega), fun k hk => (by cases hk), z _ _ (by omega) (by omega) (by omega), fun j hj => (N23.z (by omega) (by omega) j).2⟩
  · exact ⟨(f 7).trans (N23.ii 7), fun j hj => absurd hj (Nat.not_lt_zero j)⟩
  · exact fun j hj => z _ _ (by omega) (by omega) (by omega)
  · exact ⟨N23.no (j := 17) (by decide), N23.no (j := 18) (by decide), N23.no (j := 19) (by decide), fun x hx => (by rcases hx with hx | hx | hx <;> cases hx), fun x y hx => (by cases hx), fun x y hx => (by cases hx), fun x y hx => (by cases hx), rfl, fun q x hq => (by cases hq)⟩
theorem n19 (hm : gX h0 = m) (kk : ∀ h2, gX h2 = m + 36 → gS h2 = gS h0 + (168 + 4) → Ag m h0 h2 → ST m s0G (0, 0, 1) h2 → K none h2) : AM 19 [.ref m] (mk1 h0 3 0 8) K := by
  obtain ⟨x0, hx0⟩ : ∃ x, x = mk1 h0 3 0 8 := ⟨_, rfl⟩
  have N0 : NB m 1 8 [] [(0, 3)] [] [] (fun _ => 0) h0 x0 := by rw [hx0]; exact NB.new hm
  rw [← hx0]
  simp only [e19, v19_0, v19_1]
  have hK0 := N0.kM (Ko := 12) (Ki := 8) (n := 8) (k := 7) (k0 := 3) (by simp)
  simp only [v19_4, v19_5, v19_7, v19_9, v19_13, hK0, true_and]
  obtain ⟨x1, hx1⟩ : ∃ x, x = pR (mk2 x0 12 8 8 7) m 0 (some (gX x0)) := ⟨_, rfl⟩
  have N1 : NB m 10 72 [(0, 1)] [(1, 12), (0, 3)] [(1, 8)] [(1, 8, 8, 7)] (fun _ => 0) h0 x1 := by rw [hx1]; exact N0.mat (Ko := 12) (Ki := 8) (n := 8) (k := 7) (f := 0) (by decide)
  rw [← hx1]
  have hK1 := N1.kM (Ko := 12) (Ki := 8) (n := 24) (k := 3) (k0 := 3) (by simp)
  simp only [v19_16, v19_17, v19_19, v19_20, v19_24, hK1, true_and]
  obtain ⟨x2, hx2⟩ : ∃ x, x = pR (mk2 x1 12 8 24 3) m 2 (some (gX x1)) := ⟨_, rfl⟩
  have N2 : NB m 35 168 [(2, 10), (0, 1)] [(10, 12), (1, 12), (0, 3)] [(10, 24), (1, 8)] [(10, 24, 8, 3), (1, 8, 8, 7)] (fun _ => 0) h0 x2 := by rw [hx2]; exact N1.mat (Ko := 12) (Ki := 8) (n := 24) (k := 3) (f := 2) (by decide)
  rw [← hx2]
  have hX : gX x2 = m + 35 := N2.2.1
  have k3 := N2.k0 (k0 := 3) (by simp)
  have kA : gK (mk1 x2 8 4 4) m = 3 := by rw [gK_mk1, if_neg (by omega)]; exact k3
  have kX : gK (mk1 x2 8 4 4) (gX x2) = 8 := by rw [gK_mk1, if_pos rfl]
  have nX : gN (mk1 x2 8 4 4) (gX x2) = 4 := by rw [gN_mk1, if_pos rfl]
  simp only [v19_27, v19_28, v19_29, v19_31, v19_32, v19_33, v19_35, v19_36, v19_37, v19_38, v19_39, v19_40, v19_41, v19_42, v19_43, v19_44, v19_45, v19_46, v19_47, v19_48, v19_51, v19_52, v19_53, v19_56, gI_pJ, gI_pR, gJ_pI, gJ_pR, gR_pI, gR_pJ, gK_pI, gK_pJ, gK_pR, gN_pI, gN_pJ, gN_pR, gX_pI, gX_pJ, gX_pR, gS_pI, gS_pJ, gS_pR, gK_cpI, gN_cpI, gK_cpJ, gN_cpJ, gR_cpI, gR_cpJ, gJ_cpI, gI_cpJ, kA, kX, nX, ib7_0, ib7_1, ib7_2, ib7_3, ib7_4, ib7_5, ib7_6, ib3_0, ib3_1, ib3_2, ib4_0, ib4_1, ib4_2, ib4_3, tc0, tc1, tc2, tc3, tc4, tc5, tc6, true_and, true_or, and_self]
  rw [hX]
  have zA : ∀ a j, m ≤ a → a < m + 35 → gI (pI (pR (pI (pI (pI (pI (mk1 x2 8 4 4) (m + 35) 0 9) (m + 35) 1 0) (m + 35) 2 0) (m + 35) 3 1) m 4 (some (m + 35))) m 7 1) a j = if a = m ∧ j = 7 then 1 else 0 := fun a j h1 h2 => by
    by_cases e : a = m ∧ j = 7
    · rw [if_pos e, e.1, e.2, gI_at]
    · rw [if_neg e, gI_ne e]
      show gI (pI (pI (pI (pI (mk1 x2 8 4 4) (m + 35) 0 9) (m + 35) 1 0) (m + 35) 2 0) (m + 35) 3 1) a j = 0
      rw [gI_ne (by omega), gI_ne (by omega), gI_ne (by omega), gI_ne (by omega), gI_mk1, if_neg (by omega)]
      by_cases e2 : a = m
      · rw [e2]; exact N2.ii j
      · exact (N2.z (by omega) (by omega) j).1
  have rA : ∀ a j, a < m + 35 → ¬ (a = m ∧ j = 4) → gR (pI (pR (pI (pI (pI (pI (mk1 x2 8 4 4) (m + 35) 0 9) (m + 35) 1 0) (m + 35) 2 0) (m + 35) 3 1) m 4 (some (m + 35))) m 7 1) a j = gR x2 a j := fun a j h1 h2 => by
    show gR (pR (pI (pI (pI (pI (mk1 x2 8 4 4) (m + 35) 0 9) (m + 35) 1 0) (m + 35) 2 0) (m + 35) 3 1) m 4 (some (m + 35))) a j = _
    rw [gR_ne h2]
    show gR (mk1 x2 8 4 4) a j = _
    rw [gR_mk1, if_neg (by omega)]
  have kA' : ∀ a, a < m + 35 → gK (mk1 x2 8 4 4) a = gK x2 a := fun a h1 => by rw [gK_mk1, if_neg (by omega)]
  have nA' : ∀ a, a < m + 35 → gN (mk1 x2 8 4 4) a = gN x2 a := fun a h1 => by rw [gN_mk1, if_neg (by omega)]
  have kX' : gK (mk1 x2 8 4 4) (m + 35) = 8 := by rw [gK_mk1, if_pos hX.symm]
  have nX' : gN (mk1 x2 8 4 4) (m + 35) = 4 := by rw [gN_mk1, if_pos hX.symm]
  refine kk _ (by show gX x2 + 1 = _; omega) (by show gS x2 + 4 = _; rw [N2.2.2.2.1]) (((((((N2.2.2.2.2.1.mk1 (by omega)).pI (by omega)).pI (by omega)).pI (by omega)).pI (by omega)).pR (by omega)).pI (by omega)) ⟨fun i => m + (2 + i), fun i => m + (11 + i), ?_, ?_, s0_ok, ?_, ?_, gI_at _ _ _ _⟩
  · refine ⟨(kA' m (by omega)).trans k3, (rA m 0 (by omega) (by omega)).trans (N2.f (q := (0, 1)) (by decide)), (rA m 2 (by omega) (by omega)).trans (N2.f (q := (2, 10)) (by decide)), gR_at _ _ _ _, (kA' (m + 1) (by omega)).trans (N2.kk (q := (1, 12)) (by decide)), (nA' (m + 1) (by omega)).trans (N2.nn (q := (1, 8)) (by decide)), (kA' (m + 10) (by omega)).trans (N2.kk (q := (10, 12)) (by decide)), (nA' (m + 10) (by omega)).trans (N2.nn (q := (10, 24)) (by decide)), kX', nX', fun i hi => ?_, fun i hi => ?_, fun i j _ _ (h : m + (2 + i) = m + (2 + j)) => (by omega), fun i j _ _ (h : m + (11 + i) = m + (11 + j)) => (by omega)⟩
    · obtain ⟨e1, e2, e3⟩ := N2.rr (q := (1, 8, 8, 7)) (by decide) (i := i) hi
      exact ⟨(rA (m + 1) i (by omega) (by omega)).trans e1, (kA' (m + (2 + i)) (by omega)).trans e2, (nA' (m + (2 + i)) (by omega)).trans e3, (show m + 2 ≤ m + (2 + i) by omega), (show m + (2 + i) < m + 10 by omega)⟩
    · obtain ⟨e1, e2, e3⟩ := N2.rr (q := (10, 24, 8, 3)) (by decide) (i := i) hi
      exact ⟨(rA (m + 10) i (by omega) (by omega)).trans e1, (kA' (m + (11 + i)) (by omega)).trans e2, (nA' (m + (11 + i)) (by omega)).trans e3, (show m + 11 ≤ m + (11 + i) by omega), (show m + (11 + i) < m + 35 by omega)⟩
  · refine ⟨(zA m 1 (by omega) (by omega)).trans (if_neg (by omega)), (zA m 3 (by omega) (by omega)).trans (if_neg (by omega)), fun t ht => absurd ht (Nat.not_lt_zero t), fun t ht => absurd ht (Nat.not_lt_zero t), fun k hk => ?_⟩
    rw [gI_ne (by omega)]
    show gI (pI (pI (pI (pI (mk1 x2 8 4 4) (m + 35) 0 9) (m + 35) 1 0) (m + 35) 2 0) (m + 35) 3 1) (m + 35) k = _
    have : k = 0 ∨ k = 1 ∨ k = 2 ∨ k = 3 := by omega
    rcases this with rfl | rfl | rfl | rfl
    · rw [gI_ne (by omega), gI_ne (by omega), gI_ne (by omega), gI_at]; rfl
    · rw [gI_ne (by omega), gI_ne (by omega), gI_at]; rfl
    · rw [gI_ne (by omega), gI_at]; rfl
    · rw [gI_at]; rfl
  · exact (zA m 5 (by omega) (by omega)).trans (if_neg (by omega))
  · exact (zA m 6 (by omega) (by omega)).trans (if_neg (by omega))
theorem n0 (hm : gX h0 = m) (kk : ∀ h2, gX h2 = m + 7 → gS h2 = gS h0 + 376 → Ag m h0 h2 → OS0 m h2 → K none h2) : AM 0 [.ref m] (mk1 h0 1 0 17) K := by
  obtain ⟨x0, hx0⟩ : ∃ x, x = mk1 h0 1 0 17 := ⟨_, rfl⟩
  have N0 : NB m 1 17 [] [(0, 1)] [] [] (fun _ => 0) h0 x0 := by rw [hx0]; exact NB.new hm
  rw [← hx0]
  simp only [e0, v0_0, v0_1]
  have hK0 := N0.kA (K := 8) (n := 8) (k0 := 1) (by simp)
  simp only [v0_4, v0_5, v0_7, v0_9, hK0, true_and]
  obtain ⟨x1, hx1⟩ : ∃ x, x = pR (mk1 x0 8 8 8) m 0 (some (gX x0)) := ⟨_, rfl⟩
  have N1 : NB m 2 25 [(0, 1)] [(1, 8), (0, 1)] [(1, 8)] [] (fun _ => 0) h0 x1 := by rw [hx1]; exact N0.arr (K := 8) (n := 8) (f := 0) (by decide)
  rw [← hx1]
  have hK1 := N1.kA (K := 8) (n := 24) (k0 := 1) (by simp)
  simp only [v0_12, v0_13, v0_15, v0_17, hK1, true_and]
  obtain ⟨x2, hx2⟩ : ∃ x, x = pR (mk1 x1 8 24 24) m 1 (some (gX x1)) := ⟨_, rfl⟩
  have N2 : NB m 3 49 [(1, 2), (0, 1)] [(2, 8), (1, 8), (0, 1)] [(2, 24), (1, 8)] [] (fun _ => 0) h0 x2 := by rw [hx2]; exact N1.arr (K := 8) (n := 24) (f := 1) (by decide)
  rw [← hx2]
  have hK2 := N2.kA (K := 8) (n := 24) (k0 := 1) (by simp)
  simp only [v0_20, v0_21, v0_23, v0_25, hK2, true_and]
  obtain ⟨x3, hx3⟩ : ∃ x, x = pR (mk1 x2 8 24 24) m 2 (some (gX x2)) := ⟨_, rfl⟩
  have N3 : NB m 4 73 [(2, 3), (1, 2), (0, 1)] [(3, 8), (2, 8), (1, 8), (0, 1)] [(3, 24), (2, 24), (1, 8)] [] (fun _ => 0) h0 x3 := by rw [hx3]; exact N2.arr (K := 8) (n := 24) (f := 2) (by decide)
  rw [← hx3]
  have hK3 := N3.kA (K := 8) (n := 7) (k0 := 1) (by simp)
  simp only [v0_28, v0_29, v0_31, v0_33, hK3, true_and]
  obtain ⟨x4, hx4⟩ : ∃ x, x = pR (mk1 x3 8 7 7) m 3 (some (gX x3)) := ⟨_, rfl⟩
  have N4 : NB m 5 80 [(3, 4), (2, 3), (1, 2), (0, 1)] [(4, 8), (3, 8), (2, 8), (1, 8), (0, 1)] [(4, 7), (3, 24), (2, 24), (1, 8)] [] (fun _ => 0) h0 x4 := by rw [hx4]; exact N3.arr (K := 8) (n := 7) (f := 3) (by decide)
  rw [← hx4]
  have hK4 := N4.kA (K := 8) (n := 288) (k0 := 1) (by simp)
  simp only [v0_36, v0_37, v0_40, v0_42, hK4, true_and]
  obtain ⟨x5, hx5⟩ : ∃ x, x = pR (mk1 x4 8 288 288) m 9 (some (gX x4)) := ⟨_, rfl⟩
  have N5 : NB m 6 368 [(9, 5), (3, 4), (2, 3), (1, 2), (0, 1)] [(5, 8), (4, 8), (3, 8), (2, 8), (1, 8), (0, 1)] [(5, 288), (4, 7), (3, 24), (2, 24), (1, 8)] [] (fun _ => 0) h0 x5 := by rw [hx5]; exact N4.arr (K := 8) (n := 288) (f := 9) (by decide)
  rw [← hx5]
  have hK5 := N5.kA (K := 8) (n := 8) (k0 := 1) (by simp)
  simp only [v0_45, v0_46, v0_48, v0_50, hK5, true_and]
  obtain ⟨x6, hx6⟩ : ∃ x, x = pR (mk1 x5 8 8 8) m 10 (some (gX x5)) := ⟨_, rfl⟩
  have N6 : NB m 7 376 [(10, 6), (9, 5), (3, 4), (2, 3), (1, 2), (0, 1)] [(6, 8), (5, 8), (4, 8), (3, 8), (2, 8), (1, 8), (0, 1)] [(6, 8), (5, 288), (4, 7), (3, 24), (2, 24), (1, 8)] [] (fun _ => 0) h0 x6 := by rw [hx6]; exact N5.arr (K := 8) (n := 8) (f := 10) (by decide)
  rw [← hx6]
  have hK6 := N6.k0 (k0 := 1) (by simp)
  simp only [v0_53, v0_54, v0_55, hK6, true_and]
  obtain ⟨x7, hx7⟩ : ∃ x, x = pI x6 m 15 (-1) := ⟨_, rfl⟩
  have N7 : NB m 7 376 [(10, 6), (9, 5), (3, 4), (2, 3), (1, 2), (0, 1)] [(6, 8), (5, 8), (4, 8), (3, 8), (2, 8), (1, 8), (0, 1)] [(6, 8), (5, 288), (4, 7), (3, 24), (2, 24), (1, 8)] [] (up (fun _ => 0) 15 (-1)) h0 x7 := by rw [hx7]; exact N6.int
  rw [← hx7]
  have hK7 := N7.k0 (k0 := 1) (by simp)
  simp only [v0_58, v0_59, v0_60, hK7, true_and]
  obtain ⟨x8, hx8⟩ : ∃ x, x = pI x7 m 16 (-1) := ⟨_, rfl⟩
  have N8 : NB m 7 376 [(10, 6), (9, 5), (3, 4), (2, 3), (1, 2), (0, 1)] [(6, 8), (5, 8), (4, 8), (3, 8), (2, 8), (1, 8), (0, 1)] [(6, 8), (5, 288), (4, 7), (3, 24), (2, 24), (1, 8)] [] (up (up (fun _ => 0) 15 (-1)) 16 (-1)) h0 x8 := by rw [hx8]; exact N7.int
  rw [← hx8]
  simp only [v0_63]
  exact kk _ N8.2.1 N8.2.2.2.1 N8.2.2.2.2.1 ⟨N8.k0 (k0 := 1) (by simp), N8.f (q := (0, 1)) (by decide), N8.f (q := (1, 2)) (by decide), N8.f (q := (2, 3)) (by decide), N8.f (q := (3, 4)) (by decide), N8.f (q := (9, 5)) (by decide), N8.f (q := (10, 6)) (by decide), N8.kk (q := (1, 8)) (by decide), N8.kk (q := (2, 8)) (by decide), N8.kk (q := (3, 8)) (by decide), N8.kk (q := (4, 8)) (by decide), N8.kk (q := (5, 8)) (by decide), N8.kk (q := (6, 8)) (by decide), N8.nn (q := (1, 8)) (by decide), N8.nn (q := (2, 24)) (by decide), N8.nn (q := (3, 24)) (by decide), N8.nn (q := (4, 7)) (by decide), N8.nn (q := (5, 288)) (by decide), N8.nn (q := (6, 8)) (by decide)⟩
theorem n31 (hm : gX h0 = m) (kk : ∀ h2, gX h2 = m + 3 → gS h2 = gS h0 + 264 → Ag m h0 h2 → (gK h2 m = 4 ∧ gR h2 m 0 = some (m + 1) ∧ gR h2 m 6 = some (m + 2) ∧ gK h2 (m + 1) = 8 ∧ gN h2 (m + 1) = 250 ∧ gK h2 (m + 2) = 8 ∧ gN h2 (m + 2) = 7 ∧ gI h2 m 1 = 0) → K none h2) : AM 31 [.ref m] (mk1 h0 4 0 7) K := by
  obtain ⟨x0, hx0⟩ : ∃ x, x = mk1 h0 4 0 7 := ⟨_, rfl⟩
  have N0 : NB m 1 7 [] [(0, 4)] [] [] (fun _ => 0) h0 x0 := by rw [hx0]; exact NB.new hm
  rw [← hx0]
  simp only [e31, v31_0, v31_1]
  have hK0 := N0.kA (K := 8) (n := 250) (k0 := 4) (by simp)
  simp only [v31_4, v31_5, v31_8, v31_10, hK0, true_and]
  obtain ⟨x1, hx1⟩ : ∃ x, x = pR (mk1 x0 8 250 250) m 0 (some (gX x0)) := ⟨_, rfl⟩
  have N1 : NB m 2 257 [(0, 1)] [(1, 8), (0, 4)] [(1, 250)] [] (fun _ => 0) h0 x1 := by rw [hx1]; exact N0.arr (K := 8) (n := 250) (f := 0) (by decide)
  rw [← hx1]
  have hK1 := N1.kA (K := 8) (n := 7) (k0 := 4) (by simp)
  simp only [v31_13, v31_14, v31_16, v31_18, hK1, true_and]
  obtain ⟨x2, hx2⟩ : ∃ x, x = pR (mk1 x1 8 7 7) m 6 (some (gX x1)) := ⟨_, rfl⟩
  have N2 : NB m 3 264 [(6, 2), (0, 1)] [(2, 8), (1, 8), (0, 4)] [(2, 7), (1, 250)] [] (fun _ => 0) h0 x2 := by rw [hx2]; exact N1.arr (K := 8) (n := 7) (f := 6) (by decide)
  rw [← hx2]
  simp only [v31_21]
  exact kk _ N2.2.1 N2.2.2.2.1 N2.2.2.2.2.1 ⟨N2.k0 (k0 := 4) (by simp), N2.f (q := (0, 1)) (by decide), N2.f (q := (6, 2)) (by decide), N2.kk (q := (1, 8)) (by decide), N2.nn (q := (1, 250)) (by decide), N2.kk (q := (2, 8)) (by decide), N2.nn (q := (2, 7)) (by decide), N2.ii 1⟩
theorem n13 (hm : gX h0 = m) (kk : ∀ h2, gX h2 = m + 2 → gS h2 = gS h0 + 43 → Ag m h0 h2 → (gK h2 m = 2 ∧ gR h2 m 2 = some (m + 1) ∧ gK h2 (m + 1) = 9 ∧ gN h2 (m + 1) = 40 ∧ gI h2 m 0 = -1 ∧ gI h2 m 1 = 0 ∧ ∀ j, gJ h2 (m + 1) j = 0) → K none h2) : AM 13 [.ref m] (mk1 h0 2 0 3) K := by
  obtain ⟨x0, hx0⟩ : ∃ x, x = mk1 h0 2 0 3 := ⟨_, rfl⟩
  have N0 : NB m 1 3 [] [(0, 2)] [] [] (fun _ => 0) h0 x0 := by rw [hx0]; exact NB.new hm
  rw [← hx0]
  simp only [e13, v13_0, v13_1]
  have hK0 := N0.k0 (k0 := 2) (by simp)
  simp only [v13_4, v13_5, v13_6, hK0, true_and]
  obtain ⟨x1, hx1⟩ : ∃ x, x = pI x0 m 0 (-1) := ⟨_, rfl⟩
  have N1 : NB m 1 3 [] [(0, 2)] [] [] (up (fun _ => 0) 0 (-1)) h0 x1 := by rw [hx1]; exact N0.int
  rw [← hx1]
  have hK1 := N1.kA (K := 9) (n := 40) (k0 := 2) (by simp)
  simp only [v13_9, v13_10, v13_12, v13_14, hK1, true_and]
  obtain ⟨x2, hx2⟩ : ∃ x, x = pR (mk1 x1 9 40 40) m 2 (some (gX x1)) := ⟨_, rfl⟩
  have N2 : NB m 2 43 [(2, 1)] [(1, 9), (0, 2)] [(1, 40)] [] (up (fun _ => 0) 0 (-1)) h0 x2 := by rw [hx2]; exact N1.arr (K := 9) (n := 40) (f := 2) (by decide)
  rw [← hx2]
  simp only [v13_17]
  exact kk _ N2.2.1 N2.2.2.2.1 N2.2.2.2.2.1 ⟨N2.k0 (k0 := 2) (by simp), N2.f (q := (2, 1)) (by decide), N2.kk (q := (1, 9)) (by decide), N2.nn (q := (1, 40)) (by decide), N2.ii 0, N2.ii 1, fun j => (N2.z (by omega) (by omega) j).2⟩
end
