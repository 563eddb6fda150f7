/-! the run of calls -/
theorem g_st {xs : Nat → Int32} {Ln i : Nat} {σ : Mm} (hL : Ln ≤ 3072) (hi : i + 6 ≤ Ln) (h : IV σ) : ∃ s, IV s ∧ ∀ rec, g_law xs Ln rec σ (nI i) = rec (s, nI (i + 6)) := by
  have e6 : nI i + 6 = nI (i + 6) := add_li (c := 6) (k := i)
  have nl : ¬ Int32.ofNat Ln - 6 < nI i := by
    rw [show Int32.ofNat Ln - 6 = nI (Ln - 6) from sub_li (c := 6) (k := Ln) (by show 6 ≤ Ln; omega)]
    exact fun r => by have := (nI_ltI (by omega) (by omega)).mp r; omega
  have g0 : ∀ {α : Type} (k : Option α), gd (nI i) Ln k = k := fun k => gN (by omega) (by omega)
  rw [← e6]
  generalize hv : xs (nI i).toNatClampNeg &&& 31 = v
  by_cases v0 : v = 0
  · obtain ⟨s, h1, h2⟩ := st_0 (xs := xs) hL hi h
    refine ⟨s, h1, fun rec => ?_⟩
    unfold g_law
    rw [if_neg nl, g0, bd_q, hv, if_pos v0]
    exact h2 rec
  by_cases v1 : v = 1
  · obtain ⟨s, h1, h2⟩ := st_1 (xs := xs) hL hi h
    refine ⟨s, h1, fun rec => ?_⟩
    unfold g_law
    rw [if_neg nl, g0, bd_q, hv, if_neg v0, if_pos v1]
    exact h2 rec
  by_cases v2 : v = 2
  · obtain ⟨s, h1, h2⟩ := st_2 (xs := xs) hL hi h
    refine ⟨s, h1, fun rec => ?_⟩
    unfold g_law
    rw [if_neg nl, g0, bd_q, hv, if_neg v0, if_neg v1, if_pos v2]
    exact h2 rec
  by_cases v3 : v = 3
  · obtain ⟨s, h1, h2⟩ := st_3 (xs := xs) hL hi h
    refine ⟨s, h1, fun rec => ?_⟩
    unfold g_law
    rw [if_neg nl, g0, bd_q, hv, if_neg v0, if_neg v1, if_neg v2, if_pos v3]
    exact h2 rec
  by_cases v4 : v = 4
  · obtain ⟨s, h1, h2⟩ := st_4 (xs := xs) hL hi h
    refine ⟨s, h1, fun rec => ?_⟩
    unfold g_law
    rw [if_neg nl, g0, bd_q, hv, if_neg v0, if_neg v1, if_neg v2, if_neg v3, if_pos v4]
    exact h2 rec
  by_cases v5 : v = 5
  · obtain ⟨s, h1, h2⟩ := st_5 (xs := xs) hL hi h
    refine ⟨s, h1, fun rec => ?_⟩
    unfold g_law
    rw [if_neg nl, g0, bd_q, hv, if_neg v0, if_neg v1, if_neg v2, if_neg v3, if_neg v4, if_pos v5]
    exact h2 rec
  by_cases v6 : v = 6
  · obtain ⟨s, h1, h2⟩ := st_6 (xs := xs) hL hi h
    refine ⟨s, h1, fun rec => ?_⟩
    unfold g_law
    rw [if_neg nl, g0, bd_q, hv, if_neg v0, if_neg v1, if_neg v2, if_neg v3, if_neg v4, if_neg v5, if_pos v6]
    exact h2 rec
  by_cases v7 : v = 7
  · obtain ⟨s, h1, h2⟩ := st_7 (xs := xs) hL hi h
    refine ⟨s, h1, fun rec => ?_⟩
    unfold g_law
    rw [if_neg nl, g0, bd_q, hv, if_neg v0, if_neg v1, if_neg v2, if_neg v3, if_neg v4, if_neg v5, if_neg v6, if_pos v7]
    exact h2 rec
  by_cases v8 : v = 8
  · obtain ⟨s, h1, h2⟩ := st_8 (xs := xs) hL hi h
    refine ⟨s, h1, fun rec => ?_⟩
    unfold g_law
    rw [if_neg nl, g0, bd_q, hv, if_neg v0, if_neg v1, if_neg v2, if_neg v3, if_neg v4, if_neg v5, if_neg v6, if_neg v7, if_pos v8]
    exact h2 rec
  by_cases v9 : v = 9
  · obtain ⟨s, h1, h2⟩ := st_9 (xs := xs) hL hi h
    refine ⟨s, h1, fun rec => ?_⟩
    unfold g_law
    rw [if_neg nl, g0, bd_q, hv, if_neg v0, if_neg v1, if_neg v2, if_neg v3, if_neg v4, if_neg v5, if_neg v6, if_neg v7, if_neg v8, if_pos v9]
    exact h2 rec
  by_cases v10 : v = 10
  · obtain ⟨s, h1, h2⟩ := st_10 (xs := xs) hL hi h
    refine ⟨s, h1, fun rec => ?_⟩
    unfold g_law
    rw [if_neg nl, g0, bd_q, hv, if_neg v0, if_neg v1, if_neg v2, if_neg v3, if_neg v4, if_neg v5, if_neg v6, if_neg v7, if_neg v8, if_neg v9, if_pos v10]
    exact h2 rec
  by_cases v11 : v = 11
  · obtain ⟨s, h1, h2⟩ := st_11 (xs := xs) hL hi h
    refine ⟨s, h1, fun rec => ?_⟩
    unfold g_law
    rw [if_neg nl, g0, bd_q, hv, if_neg v0, if_neg v1, if_neg v2, if_neg v3, if_neg v4, if_neg v5, if_neg v6, if_neg v7, if_neg v8, if_neg v9, if_neg v10, if_pos v11]
    exact h2 rec
  by_cases v12 : v = 12
  · obtain ⟨s, h1, h2⟩ := st_12 (xs := xs) hL hi h
    refine ⟨s, h1, fun rec => ?_⟩
    unfold g_law
    rw [if_neg nl, g0, bd_q, hv, if_neg v0, if_neg v1, if_neg v2, if_neg v3, if_neg v4, if_neg v5, if_neg v6, if_neg v7, if_neg v8, if_neg v9, if_neg v10, if_neg v11, if_pos v12]
    exact h2 rec
  by_cases v13 : v = 13
  · obtain ⟨s, h1, h2⟩ := st_13 (xs := xs) hL hi h
    refine ⟨s, h1, fun rec => ?_⟩
    unfold g_law
    rw [if_neg nl, g0, bd_q, hv, if_neg v0, if_neg v1, if_neg v2, if_neg v3, if_neg v4, if_neg v5, if_neg v6, if_neg v7, if_neg v8, if_neg v9, if_neg v10, if_neg v11, if_neg v12, if_pos v13]
    exact h2 rec
  by_cases v14 : v = 14
  · obtain ⟨s, h1, h2⟩ := st_14 (xs := xs) hL hi h
    refine ⟨s, h1, fun rec => ?_⟩
    unfold g_law
    rw [if_neg nl, g0, bd_q, hv, if_neg v0, if_neg v1, if_neg v2, if_neg v3, if_neg v4, if_neg v5, if_neg v6, if_neg v7, if_neg v8, if_neg v9, if_neg v10, if_neg v11, if_neg v12, if_neg v13, if_pos v14]
    exact h2 rec
  by_cases v15 : v = 15
  · obtain ⟨s, h1, h2⟩ := st_15 (xs := xs) hL hi h
    refine ⟨s, h1, fun rec => ?_⟩
    unfold g_law
    rw [if_neg nl, g0, bd_q, hv, if_neg v0, if_neg v1, if_neg v2, if_neg v3, if_neg v4, if_neg v5, if_neg v6, if_neg v7, if_neg v8, if_neg v9, if_neg v10, if_neg v11, if_neg v12, if_neg v13, if_neg v14, if_pos v15]
    exact h2 rec
  by_cases v16 : v = 16
  · obtain ⟨s, h1, h2⟩ := st_16 (xs := xs) hL hi h
    refine ⟨s, h1, fun rec => ?_⟩
    unfold g_law
    rw [if_neg nl, g0, bd_q, hv, if_neg v0, if_neg v1, if_neg v2, if_neg v3, if_neg v4, if_neg v5, if_neg v6, if_neg v7, if_neg v8, if_neg v9, if_neg v10, if_neg v11, if_neg v12, if_neg v13, if_neg v14, if_neg v15, if_pos v16]
    exact h2 rec
  by_cases v17 : v = 17
  · obtain ⟨s, h1, h2⟩ := st_17 (xs := xs) hL hi h
    refine ⟨s, h1, fun rec => ?_⟩
    unfold g_law
    rw [if_neg nl, g0, bd_q, hv, if_neg v0, if_neg v1, if_neg v2, if_neg v3, if_neg v4, if_neg v5, if_neg v6, if_neg v7, if_neg v8, if_neg v9, if_neg v10, if_neg v11, if_neg v12, if_neg v13, if_neg v14, if_neg v15, if_neg v16, if_pos v17]
    exact h2 rec
  by_cases v18 : v = 18
  · obtain ⟨s, h1, h2⟩ := st_18 (xs := xs) hL hi h
    refine ⟨s, h1, fun rec => ?_⟩
    unfold g_law
    rw [if_neg nl, g0, bd_q, hv, if_neg v0, if_neg v1, if_neg v2, if_neg v3, if_neg v4, if_neg v5, if_neg v6, if_neg v7, if_neg v8, if_neg v9, if_neg v10, if_neg v11, if_neg v12, if_neg v13, if_neg v14, if_neg v15, if_neg v16, if_neg v17, if_pos v18]
    exact h2 rec
  by_cases v19 : v = 19
  · obtain ⟨s, h1, h2⟩ := st_19 (xs := xs) hL hi h
    refine ⟨s, h1, fun rec => ?_⟩
    unfold g_law
    rw [if_neg nl, g0, bd_q, hv, if_neg v0, if_neg v1, if_neg v2, if_neg v3, if_neg v4, if_neg v5, if_neg v6, if_neg v7, if_neg v8, if_neg v9, if_neg v10, if_neg v11, if_neg v12, if_neg v13, if_neg v14, if_neg v15, if_neg v16, if_neg v17, if_neg v18, if_pos v19]
    exact h2 rec
  by_cases v20 : v = 20
  · obtain ⟨s, h1, h2⟩ := st_20 (xs := xs) hL hi h
    refine ⟨s, h1, fun rec => ?_⟩
    unfold g_law
    rw [if_neg nl, g0, bd_q, hv, if_neg v0, if_neg v1, if_neg v2, if_neg v3, if_neg v4, if_neg v5, if_neg v6, if_neg v7, if_neg v8, if_neg v9, if_neg v10, if_neg v11, if_neg v12, if_neg v13, if_neg v14, if_neg v15, if_neg v16, if_neg v17, if_neg v18, if_neg v19, if_pos v20]
    exact h2 rec
  by_cases v21 : v = 21
  · obtain ⟨s, h1, h2⟩ := st_21 (xs := xs) hL hi h
    refine ⟨s, h1, fun rec => ?_⟩
    unfold g_law
    rw [if_neg nl, g0, bd_q, hv, if_neg v0, if_neg v1, if_neg v2, if_neg v3, if_neg v4, if_neg v5, if_neg v6, if_neg v7, if_neg v8, if_neg v9, if_neg v10, if_neg v11, if_neg v12, if_neg v13, if_neg v14, if_neg v15, if_neg v16, if_neg v17, if_neg v18, if_neg v19, if_neg v20, if_pos v21]
    exact h2 rec
  by_cases v22 : v = 22
  · obtain ⟨s, h1, h2⟩ := st_22 (xs := xs) hL hi h
    refine ⟨s, h1, fun rec => ?_⟩
    unfold g_law
    rw [if_neg nl, g0, bd_q, hv, if_neg v0, if_neg v1, if_neg v2, if_neg v3, if_neg v4, if_neg v5, if_neg v6, if_neg v7, if_neg v8, if_neg v9, if_neg v10, if_neg v11, if_neg v12, if_neg v13, if_neg v14, if_neg v15, if_neg v16, if_neg v17, if_neg v18, if_neg v19, if_neg v20, if_neg v21, if_pos v22]
    exact h2 rec
  by_cases v23 : v = 23
  · obtain ⟨s, h1, h2⟩ := st_23 (xs := xs) hL hi h
    refine ⟨s, h1, fun rec => ?_⟩
    unfold g_law
    rw [if_neg nl, g0, bd_q, hv, if_neg v0, if_neg v1, if_neg v2, if_neg v3, if_neg v4, if_neg v5, if_neg v6, if_neg v7, if_neg v8, if_neg v9, if_neg v10, if_neg v11, if_neg v12, if_neg v13, if_neg v14, if_neg v15, if_neg v16, if_neg v17, if_neg v18, if_neg v19, if_neg v20, if_neg v21, if_neg v22, if_pos v23]
    exact h2 rec
  by_cases v24 : v = 24
  · obtain ⟨s, h1, h2⟩ := st_24 (xs := xs) hL hi h
    refine ⟨s, h1, fun rec => ?_⟩
    unfold g_law
    rw [if_neg nl, g0, bd_q, hv, if_neg v0, if_neg v1, if_neg v2, if_neg v3, if_neg v4, if_neg v5, if_neg v6, if_neg v7, if_neg v8, if_neg v9, if_neg v10, if_neg v11, if_neg v12, if_neg v13, if_neg v14, if_neg v15, if_neg v16, if_neg v17, if_neg v18, if_neg v19, if_neg v20, if_neg v21, if_neg v22, if_neg v23, if_pos v24]
    exact h2 rec
  by_cases v25 : v = 25
  · obtain ⟨s, h1, h2⟩ := st_25 (xs := xs) hL hi h
    refine ⟨s, h1, fun rec => ?_⟩
    unfold g_law
    rw [if_neg nl, g0, bd_q, hv, if_neg v0, if_neg v1, if_neg v2, if_neg v3, if_neg v4, if_neg v5, if_neg v6, if_neg v7, if_neg v8, if_neg v9, if_neg v10, if_neg v11, if_neg v12, if_neg v13, if_neg v14, if_neg v15, if_neg v16, if_neg v17, if_neg v18, if_neg v19, if_neg v20, if_neg v21, if_neg v22, if_neg v23, if_neg v24, if_pos v25]
    exact h2 rec
  by_cases v26 : v = 26
  · obtain ⟨s, h1, h2⟩ := st_26 (xs := xs) hL hi h
    refine ⟨s, h1, fun rec => ?_⟩
    unfold g_law
    rw [if_neg nl, g0, bd_q, hv, if_neg v0, if_neg v1, if_neg v2, if_neg v3, if_neg v4, if_neg v5, if_neg v6, if_neg v7, if_neg v8, if_neg v9, if_neg v10, if_neg v11, if_neg v12, if_neg v13, if_neg v14, if_neg v15, if_neg v16, if_neg v17, if_neg v18, if_neg v19, if_neg v20, if_neg v21, if_neg v22, if_neg v23, if_neg v24, if_neg v25, if_pos v26]
    exact h2 rec
  by_cases v27 : v = 27
  · obtain ⟨s, h1, h2⟩ := st_27 (xs := xs) hL hi h
    refine ⟨s, h1, fun rec => ?_⟩
    unfold g_law
    rw [if_neg nl, g0, bd_q, hv, if_neg v0, if_neg v1, if_neg v2, if_neg v3, if_neg v4, if_neg v5, if_neg v6, if_neg v7, if_neg v8, if_neg v9, if_neg v10, if_neg v11, if_neg v12, if_neg v13, if_neg v14, if_neg v15, if_neg v16, if_neg v17, if_neg v18, if_neg v19, if_neg v20, if_neg v21, if_neg v22, if_neg v23, if_neg v24, if_neg v25, if_neg v26, if_pos v27]
    exact h2 rec
  refine ⟨σ, h, fun rec => ?_⟩
  unfold g_law
  rw [if_neg nl, g0, bd_q, hv, if_neg v0, if_neg v1, if_neg v2, if_neg v3, if_neg v4, if_neg v5, if_neg v6, if_neg v7, if_neg v8, if_neg v9, if_neg v10, if_neg v11, if_neg v12, if_neg v13, if_neg v14, if_neg v15, if_neg v16, if_neg v17, if_neg v18, if_neg v19, if_neg v20, if_neg v21, if_neg v22, if_neg v23, if_neg v24, if_neg v25, if_neg v26, if_neg v27]
  rfl
theorem sm6 : ∀ L, L < 6 → Int32.ofNat L - 6 < 0 := by decide
theorem law_run {xs : Nat → Int32} {Ln : Nat} {σ : Mm} (hL : Ln ≤ 3072) (h : IV σ) : q_law xs Ln FU (σ, 0) = some 1 := by
  obtain ⟨r, e, q⟩ := lp_ix (step := fun rec s => g_law xs Ln rec s.1 s.2) (fun m (s : Mm × Int32) => ∃ k σ, s = (σ, nI (6 * k)) ∧ IV σ ∧ m = 513 - k ∧ k ≤ 512) (fun r => r = 1) (fun m s hI => by
    obtain ⟨k, σ, rfl, hI, hm, hk⟩ := hI
    by_cases q : 6 * k + 6 ≤ Ln
    · obtain ⟨s, h1, h2⟩ := g_st (xs := xs) hL q hI
      exact Or.inr ⟨513 - (k + 1), (s, nI (6 * k + 6)), fun rec => h2 rec, ⟨k + 1, s, by rw [show 6 * (k + 1) = 6 * k + 6 by omega], h1, rfl, by omega⟩, by omega⟩
    · refine Or.inl ⟨1, fun rec => ?_, rfl⟩
      show g_law xs Ln rec σ (nI (6 * k)) = _
      unfold g_law
      rw [if_pos]
      by_cases w : Ln < 6
      · exact Int32.lt_of_lt_of_le (sm6 Ln w) (show (0 : Int32) ≤ nI (6 * k) from (nI_leI (a := 0) (by omega) (by omega)).mpr (by omega))
      · rw [show Int32.ofNat Ln - 6 = nI (Ln - 6) from sub_li (c := 6) (k := Ln) (by show 6 ≤ Ln; omega)]
        exact (nI_ltI (by omega) (by omega)).mpr (by omega)) FU 513 (σ, 0) ⟨0, σ, rfl, h, rfl, by omega⟩ (by show 513 < 2000; omega)
  rw [q] at e
  exact e
theorem i8 {b : Nat} (h : b < 8) : b = 0 ∨ b = 1 ∨ b = 2 ∨ b = 3 ∨ b = 4 ∨ b = 5 ∨ b = 6 ∨ b = 7 := by omega
theorem iv0 : IVp (Pz 1) σ0 := by
  refine ⟨Pz_W (by omega) (by omega), CP_if.mpr ⟨rfl, fun v _ => rfl, fun b hb' => ?_⟩, MP_if.mpr ⟨rfl, fun v hv => ?_, fun b hb' => ?_⟩, Or.inl rfl, Or.inl ⟨rfl, rfl⟩, Or.inl ⟨rfl, rfl⟩, ⟨fun i hi => ?_, fun x hx => ⟨0, by omega, ?_, ?_⟩⟩, ⟨0, fun _ => 0, by omega, rfl, rfl, fun i hi => by omega⟩⟩
  · rcases i8 hb' with q | q | q | q | q | q | q | q <;> subst q <;> exact ⟨rfl, rfl, rfl, rfl, rfl, rfl, fun i hi => absurd (show i < 0 from hi) (by omega)⟩
  · have : v = 0 ∨ v = 1 ∨ v = 2 ∨ v = 3 ∨ v = 4 ∨ v = 5 ∨ v = 6 ∨ v = 7 ∨ v = 8 ∨ v = 9 ∨ v = 10 ∨ v = 11 := by omega
    rcases this with q | q | q | q | q | q | q | q | q | q | q | q <;> subst q <;> rfl
  · rcases i8 hb' with q | q | q | q | q | q | q | q <;> subst q <;> exact ⟨rfl, rfl, fun _ => rfl, fun q => absurd (show (2 : Nat) = 2 from rfl) q, fun q => absurd (show (2 : Nat) = 1 from q) (by omega), rfl, fun i hi => absurd (show i < 0 from hi) (by omega)⟩
  · have : i = 0 ∨ i = 1 ∨ i = 2 ∨ i = 3 := by omega
    rcases this with q | q | q | q <;> subst q <;> rfl
  · rcases i8 hx with q | q | q | q | q | q | q | q <;> subst q <;> rfl
  · rcases i8 hx with q | q | q | q | q | q | q | q <;> subst q <;> rfl
/-- the pure part: class and model answer the same at every script -/
theorem law_true (xs : Nat → Int32) (L : Nat) (hL : L ≤ 3072) : q_law xs L FU (σ0, 0) = some 1 := law_run hL ⟨_, iv0⟩
