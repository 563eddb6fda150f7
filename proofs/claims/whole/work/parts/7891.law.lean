/-! the law -/
theorem lw_tail {f : Mm → Option Rx} {g : Mm → Option (Int32 × Mm)} {es : List Nat} {σ : Mm} (h : METH f g es σ) : ∃ σ6, IV σ6 ∧ ∀ (rec : Mm × Int32 → Option Int32) (x4 : Int32), (bn2 ((f σ).bind (lwR es)) fun r2 σ3 => bn2 (g σ3) fun r5 σ6 => (fX10_thrown σ6).bind fun r7 => if r7 = r2 then if r2 = 0 then if (lg_cmp (σ6 170 (Int32.toNatClampNeg 0)).toInt64 r5.toInt64) = 0 then bd (x4 + 6) fun v9 => rec (σ6, v9) else some 0 else bd (x4 + 6) fun v8 => rec (σ6, v8) else some 0) = rec (σ6, x4 + 6) := by
  obtain ⟨r, σ3, b, σ6, h1, h2, h3, h4, h5⟩ := meth_st h
  refine ⟨σ6, h5, fun rec x4 => ?_⟩
  rw [h1]
  simp only [bn2, obs, un2]
  rw [h2]
  simp only [obs]
  show (if σ6 123 0 = r then _ else _) = _
  rw [if_pos h3]
  by_cases q : r = 0
  · rw [if_pos q, if_pos (h4 q)]; rfl
  · rw [if_neg q]; rfl
theorem lw_tailp {f g : Mm → Option (Int32 × Mm)} {σ : Mm} (h : METP f g σ) : ∃ σ6, IV σ6 ∧ ∀ (rec : Mm × Int32 → Option Int32) (x4 : Int32), (bn2 (f σ) fun r1 σ2 => bn2 (g σ2) fun r3 σ4 => if r1 = r3 then bd (x4 + 6) fun v5 => rec (σ4, v5) else some 0) = rec (σ6, x4 + 6) := by
  obtain ⟨a, σ1, τ1, h1, h2, h3⟩ := h
  refine ⟨τ1, h3, fun rec x4 => ?_⟩
  rw [h1]
  simp only [bn2, obs, un2]
  rw [h2]
  simp only [obs]
  show (if a = a then _ else _) = _
  rw [if_pos rfl]
  rfl
theorem gdI {α : Type} {i Ln : Nat} (c : Nat) (h : i + c < Ln) (hL : Ln ≤ 3072) (k : Option α) : gd (nI (i + c)) Ln k = k := gN (by omega) (by omega)
theorem st_0 {xs : Nat → Int32} {Ln i : Nat} {σ : Mm} (hL : Ln ≤ 3072) (hi : i + 6 ≤ Ln) (h : IV σ) : ∃ s, IV s ∧ ∀ rec, u_law0 xs Ln rec σ (nI i) = rec (s, nI i + 6) := by
  have g1 : ∀ {α : Type} (k : Option α), gd (nI i + 1) Ln k = k := fun k => by rw [show nI i + 1 = nI (i + 1) from add_li (c := 1) (k := i)]; exact gdI 1 (by omega) hL k
  obtain ⟨s, h1, h2⟩ := lw_tail (me_clear h (xs (nI i + 1).toNatClampNeg))
  refine ⟨s, h1, fun rec => ?_⟩
  unfold u_law0
  simp only [g1]
  exact h2 rec (nI i)
theorem st_1 {xs : Nat → Int32} {Ln i : Nat} {σ : Mm} (hL : Ln ≤ 3072) (hi : i + 6 ≤ Ln) (h : IV σ) : ∃ s, IV s ∧ ∀ rec, u_law1 xs Ln rec σ (nI i) = rec (s, nI i + 6) := by
  have g1 : ∀ {α : Type} (k : Option α), gd (nI i + 1) Ln k = k := fun k => by rw [show nI i + 1 = nI (i + 1) from add_li (c := 1) (k := i)]; exact gdI 1 (by omega) hL k
  have g2 : ∀ {α : Type} (k : Option α), gd (nI i + 2) Ln k = k := fun k => by rw [show nI i + 2 = nI (i + 2) from add_li (c := 2) (k := i)]; exact gdI 2 (by omega) hL k
  have g3 : ∀ {α : Type} (k : Option α), gd (nI i + 3) Ln k = k := fun k => by rw [show nI i + 3 = nI (i + 3) from add_li (c := 3) (k := i)]; exact gdI 3 (by omega) hL k
  have g4 : ∀ {α : Type} (k : Option α), gd (nI i + 4) Ln k = k := fun k => by rw [show nI i + 4 = nI (i + 4) from add_li (c := 4) (k := i)]; exact gdI 4 (by omega) hL k
  have g5 : ∀ {α : Type} (k : Option α), gd (nI i + 5) Ln k = k := fun k => by rw [show nI i + 5 = nI (i + 5) from add_li (c := 5) (k := i)]; exact gdI 5 (by omega) hL k
  obtain ⟨s, h1, h2⟩ := lw_tail (me_append h (xs (nI i + 1).toNatClampNeg) (xs (nI i + 2).toNatClampNeg) (xs (nI i + 3).toNatClampNeg) (xs (nI i + 4).toNatClampNeg) (xs (nI i + 5).toNatClampNeg))
  refine ⟨s, h1, fun rec => ?_⟩
  unfold u_law1
  simp only [g1, g2, g3, g4, g5]
  exact h2 rec (nI i)
theorem st_2 {xs : Nat → Int32} {Ln i : Nat} {σ : Mm} (hL : Ln ≤ 3072) (hi : i + 6 ≤ Ln) (h : IV σ) : ∃ s, IV s ∧ ∀ rec, u_law2 xs Ln rec σ (nI i) = rec (s, nI i + 6) := by
  have g1 : ∀ {α : Type} (k : Option α), gd (nI i + 1) Ln k = k := fun k => by rw [show nI i + 1 = nI (i + 1) from add_li (c := 1) (k := i)]; exact gdI 1 (by omega) hL k
  obtain ⟨s, h1, h2⟩ := lw_tail (me_removeLast h (xs (nI i + 1).toNatClampNeg))
  refine ⟨s, h1, fun rec => ?_⟩
  unfold u_law2
  simp only [g1]
  exact h2 rec (nI i)
theorem st_3 {xs : Nat → Int32} {Ln i : Nat} {σ : Mm} (hL : Ln ≤ 3072) (hi : i + 6 ≤ Ln) (h : IV σ) : ∃ s, IV s ∧ ∀ rec, u_law3 xs Ln rec σ (nI i) = rec (s, nI i + 6) := by
  have g1 : ∀ {α : Type} (k : Option α), gd (nI i + 1) Ln k = k := fun k => by rw [show nI i + 1 = nI (i + 1) from add_li (c := 1) (k := i)]; exact gdI 1 (by omega) hL k
  have g2 : ∀ {α : Type} (k : Option α), gd (nI i + 2) Ln k = k := fun k => by rw [show nI i + 2 = nI (i + 2) from add_li (c := 2) (k := i)]; exact gdI 2 (by omega) hL k
  have g3 : ∀ {α : Type} (k : Option α), gd (nI i + 3) Ln k = k := fun k => by rw [show nI i + 3 = nI (i + 3) from add_li (c := 3) (k := i)]; exact gdI 3 (by omega) hL k
  have g4 : ∀ {α : Type} (k : Option α), gd (nI i + 4) Ln k = k := fun k => by rw [show nI i + 4 = nI (i + 4) from add_li (c := 4) (k := i)]; exact gdI 4 (by omega) hL k
  have g5 : ∀ {α : Type} (k : Option α), gd (nI i + 5) Ln k = k := fun k => by rw [show nI i + 5 = nI (i + 5) from add_li (c := 5) (k := i)]; exact gdI 5 (by omega) hL k
  obtain ⟨s, h1, h2⟩ := lw_tail (me_setEnd h (xs (nI i + 1).toNatClampNeg) (xs (nI i + 2).toNatClampNeg) (xs (nI i + 3).toNatClampNeg) (xs (nI i + 4).toNatClampNeg) (xs (nI i + 5).toNatClampNeg))
  refine ⟨s, h1, fun rec => ?_⟩
  unfold u_law3
  simp only [g1, g2, g3, g4, g5]
  exact h2 rec (nI i)
theorem st_4 {xs : Nat → Int32} {Ln i : Nat} {σ : Mm} (hL : Ln ≤ 3072) (hi : i + 6 ≤ Ln) (h : IV σ) : ∃ s, IV s ∧ ∀ rec, u_law4 xs Ln rec σ (nI i) = rec (s, nI i + 6) := by
  have g1 : ∀ {α : Type} (k : Option α), gd (nI i + 1) Ln k = k := fun k => by rw [show nI i + 1 = nI (i + 1) from add_li (c := 1) (k := i)]; exact gdI 1 (by omega) hL k
  have g2 : ∀ {α : Type} (k : Option α), gd (nI i + 2) Ln k = k := fun k => by rw [show nI i + 2 = nI (i + 2) from add_li (c := 2) (k := i)]; exact gdI 2 (by omega) hL k
  obtain ⟨s, h1, h2⟩ := lw_tail (me_setFrequency h (xs (nI i + 1).toNatClampNeg) (xs (nI i + 2).toNatClampNeg))
  refine ⟨s, h1, fun rec => ?_⟩
  unfold u_law4
  simp only [g1, g2]
  exact h2 rec (nI i)
theorem st_5 {xs : Nat → Int32} {Ln i : Nat} {σ : Mm} (hL : Ln ≤ 3072) (hi : i + 6 ≤ Ln) (h : IV σ) : ∃ s, IV s ∧ ∀ rec, u_law5 xs Ln rec σ (nI i) = rec (s, nI i + 6) := by
  have g1 : ∀ {α : Type} (k : Option α), gd (nI i + 1) Ln k = k := fun k => by rw [show nI i + 1 = nI (i + 1) from add_li (c := 1) (k := i)]; exact gdI 1 (by omega) hL k
  have g2 : ∀ {α : Type} (k : Option α), gd (nI i + 2) Ln k = k := fun k => by rw [show nI i + 2 = nI (i + 2) from add_li (c := 2) (k := i)]; exact gdI 2 (by omega) hL k
  obtain ⟨s, h1, h2⟩ := lw_tail (me_setInitial h (xs (nI i + 1).toNatClampNeg) (xs (nI i + 2).toNatClampNeg))
  refine ⟨s, h1, fun rec => ?_⟩
  unfold u_law5
  simp only [g1, g2]
  exact h2 rec (nI i)
theorem st_6 {xs : Nat → Int32} {Ln i : Nat} {σ : Mm} (hL : Ln ≤ 3072) (hi : i + 6 ≤ Ln) (h : IV σ) : ∃ s, IV s ∧ ∀ rec, u_law6 xs Ln rec σ (nI i) = rec (s, nI i + 6) := by
  have g1 : ∀ {α : Type} (k : Option α), gd (nI i + 1) Ln k = k := fun k => by rw [show nI i + 1 = nI (i + 1) from add_li (c := 1) (k := i)]; exact gdI 1 (by omega) hL k
  have g2 : ∀ {α : Type} (k : Option α), gd (nI i + 2) Ln k = k := fun k => by rw [show nI i + 2 = nI (i + 2) from add_li (c := 2) (k := i)]; exact gdI 2 (by omega) hL k
  have g3 : ∀ {α : Type} (k : Option α), gd (nI i + 3) Ln k = k := fun k => by rw [show nI i + 3 = nI (i + 3) from add_li (c := 3) (k := i)]; exact gdI 3 (by omega) hL k
  obtain ⟨s, h1, h2⟩ := lw_tail (me_instruction h (xs (nI i + 1).toNatClampNeg) (xs (nI i + 2).toNatClampNeg) (xs (nI i + 3).toNatClampNeg))
  refine ⟨s, h1, fun rec => ?_⟩
  unfold u_law6
  simp only [g1, g2, g3]
  exact h2 rec (nI i)
theorem st_7 {xs : Nat → Int32} {Ln i : Nat} {σ : Mm} (hL : Ln ≤ 3072) (hi : i + 6 ≤ Ln) (h : IV σ) : ∃ s, IV s ∧ ∀ rec, u_law7 xs Ln rec σ (nI i) = rec (s, nI i + 6) := by
  have g1 : ∀ {α : Type} (k : Option α), gd (nI i + 1) Ln k = k := fun k => by rw [show nI i + 1 = nI (i + 1) from add_li (c := 1) (k := i)]; exact gdI 1 (by omega) hL k
  have g2 : ∀ {α : Type} (k : Option α), gd (nI i + 2) Ln k = k := fun k => by rw [show nI i + 2 = nI (i + 2) from add_li (c := 2) (k := i)]; exact gdI 2 (by omega) hL k
  obtain ⟨s, h1, h2⟩ := lw_tail (me_block h (xs (nI i + 1).toNatClampNeg) (xs (nI i + 2).toNatClampNeg))
  refine ⟨s, h1, fun rec => ?_⟩
  unfold u_law7
  simp only [g1, g2]
  exact h2 rec (nI i)
theorem st_8 {xs : Nat → Int32} {Ln i : Nat} {σ : Mm} (hL : Ln ≤ 3072) (hi : i + 6 ≤ Ln) (h : IV σ) : ∃ s, IV s ∧ ∀ rec, u_law8 xs Ln rec σ (nI i) = rec (s, nI i + 6) := by
  have g1 : ∀ {α : Type} (k : Option α), gd (nI i + 1) Ln k = k := fun k => by rw [show nI i + 1 = nI (i + 1) from add_li (c := 1) (k := i)]; exact gdI 1 (by omega) hL k
  have g2 : ∀ {α : Type} (k : Option α), gd (nI i + 2) Ln k = k := fun k => by rw [show nI i + 2 = nI (i + 2) from add_li (c := 2) (k := i)]; exact gdI 2 (by omega) hL k
  obtain ⟨s, h1, h2⟩ := lw_tail (me_live h (xs (nI i + 1).toNatClampNeg) (xs (nI i + 2).toNatClampNeg))
  refine ⟨s, h1, fun rec => ?_⟩
  unfold u_law8
  simp only [g1, g2]
  exact h2 rec (nI i)
theorem st_9 {xs : Nat → Int32} {Ln i : Nat} {σ : Mm} (hL : Ln ≤ 3072) (hi : i + 6 ≤ Ln) (h : IV σ) : ∃ s, IV s ∧ ∀ rec, u_law9 xs Ln rec σ (nI i) = rec (s, nI i + 6) := by
  have g1 : ∀ {α : Type} (k : Option α), gd (nI i + 1) Ln k = k := fun k => by rw [show nI i + 1 = nI (i + 1) from add_li (c := 1) (k := i)]; exact gdI 1 (by omega) hL k
  obtain ⟨s, h1, h2⟩ := lw_tail (me_conflicts h (xs (nI i + 1).toNatClampNeg))
  refine ⟨s, h1, fun rec => ?_⟩
  unfold u_law9
  simp only [g1]
  exact h2 rec (nI i)
theorem st_10 {xs : Nat → Int32} {Ln i : Nat} {σ : Mm} (hL : Ln ≤ 3072) (hi : i + 6 ≤ Ln) (h : IV σ) : ∃ s, IV s ∧ ∀ rec, u_law10 xs Ln rec σ (nI i) = rec (s, nI i + 6) := by
  obtain ⟨s, h1, h2⟩ := lw_tailp (me_pressure h )
  refine ⟨s, h1, fun rec => ?_⟩
  unfold u_law10
  exact h2 rec (nI i)
theorem st_11 {xs : Nat → Int32} {Ln i : Nat} {σ : Mm} (hL : Ln ≤ 3072) (hi : i + 6 ≤ Ln) (h : IV σ) : ∃ s, IV s ∧ ∀ rec, u_law11 xs Ln rec σ (nI i) = rec (s, nI i + 6) := by
  obtain ⟨s, h1, h2⟩ := lw_tailp (me_loops h )
  refine ⟨s, h1, fun rec => ?_⟩
  unfold u_law11
  exact h2 rec (nI i)
theorem st_12 {xs : Nat → Int32} {Ln i : Nat} {σ : Mm} (hL : Ln ≤ 3072) (hi : i + 6 ≤ Ln) (h : IV σ) : ∃ s, IV s ∧ ∀ rec, u_law12 xs Ln rec σ (nI i) = rec (s, nI i + 6) := by
  have g1 : ∀ {α : Type} (k : Option α), gd (nI i + 1) Ln k = k := fun k => by rw [show nI i + 1 = nI (i + 1) from add_li (c := 1) (k := i)]; exact gdI 1 (by omega) hL k
  have g2 : ∀ {α : Type} (k : Option α), gd (nI i + 2) Ln k = k := fun k => by rw [show nI i + 2 = nI (i + 2) from add_li (c := 2) (k := i)]; exact gdI 2 (by omega) hL k
  obtain ⟨s, h1, h2⟩ := lw_tail (me_loop h (xs (nI i + 1).toNatClampNeg) (xs (nI i + 2).toNatClampNeg))
  refine ⟨s, h1, fun rec => ?_⟩
  unfold u_law12
  simp only [g1, g2]
  exact h2 rec (nI i)
theorem st_13 {xs : Nat → Int32} {Ln i : Nat} {σ : Mm} (hL : Ln ≤ 3072) (hi : i + 6 ≤ Ln) (h : IV σ) : ∃ s, IV s ∧ ∀ rec, u_law13 xs Ln rec σ (nI i) = rec (s, nI i + 6) := by
  have g1 : ∀ {α : Type} (k : Option α), gd (nI i + 1) Ln k = k := fun k => by rw [show nI i + 1 = nI (i + 1) from add_li (c := 1) (k := i)]; exact gdI 1 (by omega) hL k
  have g2 : ∀ {α : Type} (k : Option α), gd (nI i + 2) Ln k = k := fun k => by rw [show nI i + 2 = nI (i + 2) from add_li (c := 2) (k := i)]; exact gdI 2 (by omega) hL k
  by_cases q : xs (nI i + 2).toNatClampNeg = 0
  · obtain ⟨s, h1, h2⟩ := lw_tail (me_cost h (xs (nI i + 1).toNatClampNeg) 0)
    refine ⟨s, h1, fun rec => ?_⟩
    unfold u_law13
    simp only [g1, g2, jn, if_pos q]
    exact h2 rec (nI i)
  · obtain ⟨s, h1, h2⟩ := lw_tail (me_cost h (xs (nI i + 1).toNatClampNeg) 1)
    refine ⟨s, h1, fun rec => ?_⟩
    unfold u_law13
    simp only [g1, g2, jn, if_neg q]
    exact h2 rec (nI i)
theorem st_14 {xs : Nat → Int32} {Ln i : Nat} {σ : Mm} (hL : Ln ≤ 3072) (hi : i + 6 ≤ Ln) (h : IV σ) : ∃ s, IV s ∧ ∀ rec, u_law14 xs Ln rec σ (nI i) = rec (s, nI i + 6) := by
  have g1 : ∀ {α : Type} (k : Option α), gd (nI i + 1) Ln k = k := fun k => by rw [show nI i + 1 = nI (i + 1) from add_li (c := 1) (k := i)]; exact gdI 1 (by omega) hL k
  have g2 : ∀ {α : Type} (k : Option α), gd (nI i + 2) Ln k = k := fun k => by rw [show nI i + 2 = nI (i + 2) from add_li (c := 2) (k := i)]; exact gdI 2 (by omega) hL k
  by_cases q : xs (nI i + 2).toNatClampNeg = 0
  · obtain ⟨s, h1, h2⟩ := lw_tail (me_plan h (xs (nI i + 1).toNatClampNeg) 0 (Or.inl rfl))
    refine ⟨s, h1, fun rec => ?_⟩
    unfold u_law14
    simp only [g1, g2, jn, if_pos q]
    exact h2 rec (nI i)
  · obtain ⟨s, h1, h2⟩ := lw_tail (me_plan h (xs (nI i + 1).toNatClampNeg) 1 (Or.inr rfl))
    refine ⟨s, h1, fun rec => ?_⟩
    unfold u_law14
    simp only [g1, g2, jn, if_neg q]
    exact h2 rec (nI i)
theorem st_15 {xs : Nat → Int32} {Ln i : Nat} {σ : Mm} (hL : Ln ≤ 3072) (hi : i + 6 ≤ Ln) (h : IV σ) : ∃ s, IV s ∧ ∀ rec, u_law15 xs Ln rec σ (nI i) = rec (s, nI i + 6) := by
  have g1 : ∀ {α : Type} (k : Option α), gd (nI i + 1) Ln k = k := fun k => by rw [show nI i + 1 = nI (i + 1) from add_li (c := 1) (k := i)]; exact gdI 1 (by omega) hL k
  have g2 : ∀ {α : Type} (k : Option α), gd (nI i + 2) Ln k = k := fun k => by rw [show nI i + 2 = nI (i + 2) from add_li (c := 2) (k := i)]; exact gdI 2 (by omega) hL k
  obtain ⟨s, h1, h2⟩ := lw_tail (me_home h (xs (nI i + 1).toNatClampNeg) (xs (nI i + 2).toNatClampNeg))
  refine ⟨s, h1, fun rec => ?_⟩
  unfold u_law15
  simp only [g1, g2]
  exact h2 rec (nI i)
theorem st_16 {xs : Nat → Int32} {Ln i : Nat} {σ : Mm} (hL : Ln ≤ 3072) (hi : i + 6 ≤ Ln) (h : IV σ) : ∃ s, IV s ∧ ∀ rec, u_law16 xs Ln rec σ (nI i) = rec (s, nI i + 6) := by
  have g1 : ∀ {α : Type} (k : Option α), gd (nI i + 1) Ln k = k := fun k => by rw [show nI i + 1 = nI (i + 1) from add_li (c := 1) (k := i)]; exact gdI 1 (by omega) hL k
  have g2 : ∀ {α : Type} (k : Option α), gd (nI i + 2) Ln k = k := fun k => by rw [show nI i + 2 = nI (i + 2) from add_li (c := 2) (k := i)]; exact gdI 2 (by omega) hL k
  obtain ⟨s, h1, h2⟩ := lw_tail (me_promoted h (xs (nI i + 1).toNatClampNeg) (xs (nI i + 2).toNatClampNeg))
  refine ⟨s, h1, fun rec => ?_⟩
  unfold u_law16
  simp only [g1, g2]
  exact h2 rec (nI i)
theorem st_17 {xs : Nat → Int32} {Ln i : Nat} {σ : Mm} (hL : Ln ≤ 3072) (hi : i + 6 ≤ Ln) (h : IV σ) : ∃ s, IV s ∧ ∀ rec, u_law17 xs Ln rec σ (nI i) = rec (s, nI i + 6) := by
  have g1 : ∀ {α : Type} (k : Option α), gd (nI i + 1) Ln k = k := fun k => by rw [show nI i + 1 = nI (i + 1) from add_li (c := 1) (k := i)]; exact gdI 1 (by omega) hL k
  obtain ⟨s, h1, h2⟩ := lw_tail (me_planned h (xs (nI i + 1).toNatClampNeg))
  refine ⟨s, h1, fun rec => ?_⟩
  unfold u_law17
  simp only [g1]
  exact h2 rec (nI i)
theorem st_18 {xs : Nat → Int32} {Ln i : Nat} {σ : Mm} (hL : Ln ≤ 3072) (hi : i + 6 ≤ Ln) (h : IV σ) : ∃ s, IV s ∧ ∀ rec, u_law18 xs Ln rec σ (nI i) = rec (s, nI i + 6) := by
  obtain ⟨s, h1, h2⟩ := lw_tailp (me_enough h )
  refine ⟨s, h1, fun rec => ?_⟩
  unfold u_law18
  exact h2 rec (nI i)
theorem st_19 {xs : Nat → Int32} {Ln i : Nat} {σ : Mm} (hL : Ln ≤ 3072) (hi : i + 6 ≤ Ln) (h : IV σ) : ∃ s, IV s ∧ ∀ rec, u_law19 xs Ln rec σ (nI i) = rec (s, nI i + 6) := by
  have g1 : ∀ {α : Type} (k : Option α), gd (nI i + 1) Ln k = k := fun k => by rw [show nI i + 1 = nI (i + 1) from add_li (c := 1) (k := i)]; exact gdI 1 (by omega) hL k
  obtain ⟨s, h1, h2⟩ := lw_tail (me_run h (xs (nI i + 1).toNatClampNeg))
  refine ⟨s, h1, fun rec => ?_⟩
  unfold u_law19
  simp only [g1]
  exact h2 rec (nI i)
theorem st_20 {xs : Nat → Int32} {Ln i : Nat} {σ : Mm} (hL : Ln ≤ 3072) (hi : i + 6 ≤ Ln) (h : IV σ) : ∃ s, IV s ∧ ∀ rec, u_law20 xs Ln rec σ (nI i) = rec (s, nI i + 6) := by
  have g1 : ∀ {α : Type} (k : Option α), gd (nI i + 1) Ln k = k := fun k => by rw [show nI i + 1 = nI (i + 1) from add_li (c := 1) (k := i)]; exact gdI 1 (by omega) hL k
  obtain ⟨s, h1, h2⟩ := lw_tail (me_runPlanned h (xs (nI i + 1).toNatClampNeg))
  refine ⟨s, h1, fun rec => ?_⟩
  unfold u_law20
  simp only [g1]
  exact h2 rec (nI i)
theorem st_21 {xs : Nat → Int32} {Ln i : Nat} {σ : Mm} (hL : Ln ≤ 3072) (hi : i + 6 ≤ Ln) (h : IV σ) : ∃ s, IV s ∧ ∀ rec, u_law21 xs Ln rec σ (nI i) = rec (s, nI i + 6) := by
  have g1 : ∀ {α : Type} (k : Option α), gd (nI i + 1) Ln k = k := fun k => by rw [show nI i + 1 = nI (i + 1) from add_li (c := 1) (k := i)]; exact gdI 1 (by omega) hL k
  obtain ⟨s, h1, h2⟩ := lw_tail (me_executed h (xs (nI i + 1).toNatClampNeg))
  refine ⟨s, h1, fun rec => ?_⟩
  unfold u_law21
  simp only [g1]
  exact h2 rec (nI i)
theorem st_22 {xs : Nat → Int32} {Ln i : Nat} {σ : Mm} (hL : Ln ≤ 3072) (hi : i + 6 ≤ Ln) (h : IV σ) : ∃ s, IV s ∧ ∀ rec, u_law22 xs Ln rec σ (nI i) = rec (s, nI i + 6) := by
  have g1 : ∀ {α : Type} (k : Option α), gd (nI i + 1) Ln k = k := fun k => by rw [show nI i + 1 = nI (i + 1) from add_li (c := 1) (k := i)]; exact gdI 1 (by omega) hL k
  obtain ⟨s, h1, h2⟩ := lw_tail (me_visits h (xs (nI i + 1).toNatClampNeg))
  refine ⟨s, h1, fun rec => ?_⟩
  unfold u_law22
  simp only [g1]
  exact h2 rec (nI i)
theorem st_23 {xs : Nat → Int32} {Ln i : Nat} {σ : Mm} (hL : Ln ≤ 3072) (hi : i + 6 ≤ Ln) (h : IV σ) : ∃ s, IV s ∧ ∀ rec, u_law23 xs Ln rec σ (nI i) = rec (s, nI i + 6) := by
  obtain ⟨s, h1, h2⟩ := lw_tailp (me_profile h )
  refine ⟨s, h1, fun rec => ?_⟩
  unfold u_law23
  exact h2 rec (nI i)
theorem st_24 {xs : Nat → Int32} {Ln i : Nat} {σ : Mm} (hL : Ln ≤ 3072) (hi : i + 6 ≤ Ln) (h : IV σ) : ∃ s, IV s ∧ ∀ rec, u_law24 xs Ln rec σ (nI i) = rec (s, nI i + 6) := by
  have g1 : ∀ {α : Type} (k : Option α), gd (nI i + 1) Ln k = k := fun k => by rw [show nI i + 1 = nI (i + 1) from add_li (c := 1) (k := i)]; exact gdI 1 (by omega) hL k
  obtain ⟨c, hc, e⟩ := i2cN (xs (nI i + 1).toNatClampNeg)
  obtain ⟨s, h1, h2⟩ := lw_tail (me_feed h hc)
  refine ⟨s, h1, fun rec => ?_⟩
  unfold u_law24
  simp only [g1, e]
  exact h2 rec (nI i)
theorem st_25 {xs : Nat → Int32} {Ln i : Nat} {σ : Mm} (hL : Ln ≤ 3072) (hi : i + 6 ≤ Ln) (h : IV σ) : ∃ s, IV s ∧ ∀ rec, u_law25 xs Ln rec σ (nI i) = rec (s, nI i + 6) := by
  have g1 : ∀ {α : Type} (k : Option α), gd (nI i + 1) Ln k = k := fun k => by rw [show nI i + 1 = nI (i + 1) from add_li (c := 1) (k := i)]; exact gdI 1 (by omega) hL k
  obtain ⟨s, h1, h2⟩ := lw_tail (me_read h (xs (nI i + 1).toNatClampNeg))
  refine ⟨s, h1, fun rec => ?_⟩
  unfold u_law25
  simp only [g1]
  exact h2 rec (nI i)
theorem st_26 {xs : Nat → Int32} {Ln i : Nat} {σ : Mm} (hL : Ln ≤ 3072) (hi : i + 6 ≤ Ln) (h : IV σ) : ∃ s, IV s ∧ ∀ rec, u_law26 xs Ln rec σ (nI i) = rec (s, nI i + 6) := by
  obtain ⟨s, h1, h2⟩ := lw_tailp (me_saveSnapshot h )
  refine ⟨s, h1, fun rec => ?_⟩
  unfold u_law26
  exact h2 rec (nI i)
theorem st_27 {xs : Nat → Int32} {Ln i : Nat} {σ : Mm} (hL : Ln ≤ 3072) (hi : i + 6 ≤ Ln) (h : IV σ) : ∃ s, IV s ∧ ∀ rec, u_law27 xs Ln rec σ (nI i) = rec (s, nI i + 6) := by
  obtain ⟨s, h1, h2⟩ := lw_tail (me_restoreSnapshot h )
  refine ⟨s, h1, fun rec => ?_⟩
  unfold u_law27
  exact h2 rec (nI i)
