/-! reading: a row of variables -/
theorem c_takeOp {n nb p : Nat} {c : Nat → Nat} {σ : Mm} (ho : OKC n c) (h : IC n c nb p σ) : fX8_takeOperator σ = if sgn n c p = 43 then some (2, aC σ (p + 1)) else if sgn n c p = 45 then some (3, aC σ (p + 1)) else if sgn n c p = 42 then some (4, aC σ (p + 1)) else some (1, σ) := by
  unfold fX8_takeOperator
  rw [show (43 : Int32) = nI 43 from rfl, show (45 : Int32) = nI 45 from rfl, show (42 : Int32) = nI 42 from rfl, c_take ho h (by omega) (by omega)]
  by_cases a : sgn n c p = 43
  · rw [if_pos a, if_pos a]; rfl
  · rw [if_neg a, if_neg a]
    simp only [bn2, obs, un2, if_true]
    rw [c_take ho h (by omega) (by omega)]
    by_cases b : sgn n c p = 45
    · rw [if_pos b, if_pos b]; rfl
    · rw [if_neg b, if_neg b]
      simp only [obs, un2, if_true]
      rw [c_take ho h (by omega) (by omega)]
      by_cases d : sgn n c p = 42
      · rw [if_pos d, if_pos d]; rfl
      · rw [if_neg d, if_neg d]; rfl
theorem m_signS {n nb p : Nat} {c : Nat → Nat} {τ : Mm} (ho : OKC n c) (h : IM n c nb p τ) (hp : p ≤ n) (hw : τ 123 45 = 0) : ∃ r, fX10_sign τ = some r ∧ ∀ x, 0 < x → x < 65536 → (r = nI x ↔ sgn n c p = x) := by
  refine ⟨_, m_sign ho h hp hw, fun x h1 h2 => ?_⟩
  unfold sgn
  by_cases a : p < n
  · have := ho.2 p a
    rw [if_pos a, if_pos a, nI_eq (by omega) (by omega)]
  · rw [if_neg a, if_neg a]
    exact ⟨fun q => absurd q (m1_ne_nI (by omega)), fun q => by omega⟩
def opK (x : Nat) : Nat := if x = 43 then 2 else if x = 45 then 3 else 4
theorem rd_var {σ0 τ0 σ τ : Mm} {n nb q m t : Nat} {c : Nat → Nat} (ho : OKC n c) (hm8 : m < 8) (ht : t < 12) (hf : RF σ0 τ0 σ τ) (hc : IC n c nb q σ) (hm : IM n c nb q τ) (hw : τ 123 45 = 0) (h4 : σ 115 4 = nI m) (h50 : τ 123 50 = nI m) (h156 : τ 156 m = nI t) (hr : RW m σ τ) : ∃ σ' τ' p' x, (bn2 (fX8_parseVariables σ (nI t)) fun r17 σ18 => J8 σ18 r17) = some (bI x, σ') ∧ MVr τ = some τ' ∧ ((x = true ∧ RD σ0 τ0 n c nb p' (m + 1) σ' τ') ∨ (x = false ∧ WRg σ0 τ0 n p' σ' τ')) := by
  have hq := hc.2.2.2.1
  unfold fX8_parseVariables MVr
  rw [c_takeVar ho hc, m_var ho hm hq hw]
  by_cases a : 97 ≤ sgn n c q ∧ sgn n c q ≤ 108
  · have hlt := sg_lt (n := n) (c := c) (q := q) (by omega)
    rw [if_pos a, if_pos a]
    simp only [bn2, obs, un2]
    rw [if_neg (nI_ne_m1 (by omega)), h50]
    simp (disch := omega) only [obs, bd, jn, bn2, un2, bn3, un3, bns, nI_1, nI_clamp, gN, gN0, gN1, gN2, gN3, nI_leI, nI_ltI, nI_eq, li_le, li_lt, le_li, lt_li, eq_li, li_eq, li_mul, mul_li, add_li, nI_add, m_has, c_has, hI_0, bI_0]
    generalize hu : sgn n c q - 97 = u
    have hu12 : u < 12 := by omega
    generalize hτ16 : upm (aM τ (q + 1)) 157 (upd (aM τ (q + 1) 157) m (nI u)) = τ16
    have e16 : τ16 123 50 = nI m := by rw [← hτ16, upm_n (by omega), aM_i (by omega)]; exact h50
    rw [e16]
    simp (disch := omega) only [obs, bd, jn, bn2, un2, bn3, un3, bns, nI_1, nI_clamp, gN, gN0, gN1, gN2, gN3, nI_leI, nI_ltI, nI_eq, li_le, li_lt, le_li, lt_li, eq_li, li_eq, li_mul, mul_li, add_li, nI_add, m_has, c_has, hI_0, bI_0]
    generalize hτ18 : upm τ16 155 (upd (τ16 155) m 1) = τ18
    have F18 : RF σ0 τ0 (aC σ (q + 1)) τ18 := hτ18 ▸ hτ16 ▸ ((hf.aC.aM).M (by omega)).M (by omega)
    have I18 : IM n c nb (q + 1) τ18 := by rw [← hτ18, ← hτ16]; exact IM_up (IM_up hm.at (by omega)) (by omega)
    have w18 : τ18 123 45 = 0 := by rw [← hτ18, upm_n (by omega), ← hτ16, upm_n (by omega), aM_i (by omega)]; exact hw
    have e18 : τ18 123 50 = nI m := by rw [← hτ18, upm_n (by omega)]; exact e16
    have r18 : ∀ j, j ≠ 123 → j ≠ 155 → j ≠ 157 → τ18 j = τ j := fun j x1 x2 x3 => by rw [← hτ18, upm_n x2, ← hτ16, upm_n x3, aM_n x1]
    have s155 : ∀ i, τ18 155 i = if i = m then 1 else τ 155 i := fun i => by rw [← hτ18, upm_s, upd_a, ← hτ16, upm_n (by omega), aM_n (by omega)]
    have s157 : ∀ i, τ18 157 i = if i = m then nI u else τ 157 i := fun i => by rw [← hτ18, upm_n (by omega), ← hτ16, upm_s, upd_a, aM_n (by omega)]
    have C1 : IC n c nb (q + 1) (aC σ (q + 1)) := hc.at (by omega)
    rw [c_takeOp ho C1]
    obtain ⟨r19, es, er⟩ := m_signS ho I18 (by omega) w18
    rw [es]
    simp only [obs]
    by_cases op : sgn n c (q + 1) = 43 ∨ sgn n c (q + 1) = 45 ∨ sgn n c (q + 1) = 42
    · have hlt2 := sg_lt (n := n) (c := c) (q := q + 1) (by omega)
      have hK : opK (sgn n c (q + 1)) = 2 ∨ opK (sgn n c (q + 1)) = 3 ∨ opK (sgn n c (q + 1)) = 4 := by
        unfold opK
        rcases op with e | e | e <;> rw [e] <;> simp
      have eC : (if sgn n c (q + 1) = 43 then some ((2 : Int32), aC (aC σ (q + 1)) (q + 1 + 1)) else if sgn n c (q + 1) = 45 then some (3, aC (aC σ (q + 1)) (q + 1 + 1)) else if sgn n c (q + 1) = 42 then some (4, aC (aC σ (q + 1)) (q + 1 + 1)) else some (1, aC σ (q + 1))) = some (nI (opK (sgn n c (q + 1))), aC σ (q + 2)) := by
        rw [aC_aC]
        unfold opK
        rcases op with e | e | e <;> rw [e] <;> rfl
      rw [eC]
      have eM : MV2 τ18 r19 = MV3 τ18 (nI (opK (sgn n c (q + 1)))) := by
        unfold opK
        rcases op with e | e | e
        · have x1 : r19 = 43 := (er 43 (by omega) (by omega)).mpr e
          rw [x1, e]; exact MV2_a
        · have x2 : r19 = 45 := (er 45 (by omega) (by omega)).mpr e
          rw [x2, e]; exact MV2_b
        · have x3 : r19 = 42 := (er 42 (by omega) (by omega)).mpr e
          rw [x3, e]; exact MV2_c
      generalize hK' : opK (sgn n c (q + 1)) = K at hK eM
      have e21 : upm τ18 123 (upd (τ18 123) 44 (τ18 123 44 + 1)) = aM τ18 (q + 2) := by
        unfold aM
        rw [I18.2.1, nI_1]
      rw [eM]
      unfold MV3
      simp only [jn, bd, bn2, obs, un2]
      rw [e21]
      have e50' : aM τ18 (q + 2) 123 50 = nI m := (aM_i (by omega)).trans e18
      have hK1 : ¬ nI K = 1 := fun x => by
        have : K = 1 := (eq_li (c := 1) (by decide) (by omega)).mp x
        omega
      rw [e50', if_neg hK1]
      simp (disch := omega) only [gN, nI_clamp]
      generalize hτ25 : upm (aM τ18 (q + 2)) 155 (upd (aM τ18 (q + 2) 155) m (nI K)) = τ25
      have C2 : IC n c nb (q + 2) (aC σ (q + 2)) := hc.at (by omega)
      have I25 : IM n c nb (q + 2) τ25 := by rw [← hτ25]; exact IM_up I18.at (by omega)
      have w25 : τ25 123 45 = 0 := by rw [← hτ25, upm_n (by omega), aM_i (by omega)]; exact w18
      have e25 : τ25 123 50 = nI m := by rw [← hτ25, upm_n (by omega)]; exact e50'
      have F25 : RF σ0 τ0 (aC σ (q + 2)) τ25 := by
        have y : RF σ0 τ0 (aC σ (q + 2)) τ18 := by
          have := F18.aC (p := q + 2)
          rw [aC_aC] at this
          exact this
        exact hτ25 ▸ (y.aM).M (by omega)
      have h4' : aC σ (q + 2) 115 4 = nI m := by rw [aC_n (by omega)]; exact h4
      rw [c_takeVar ho C2, m_var ho I25 (by omega) w25, e25]
      by_cases b : 97 ≤ sgn n c (q + 2) ∧ sgn n c (q + 2) ≤ 108
      · have hlt3 := sg_lt (n := n) (c := c) (q := q + 2) (by omega)
        rw [if_pos b, if_pos b]
        simp (disch := omega) only [obs, un2, gN, nI_clamp]
        generalize hw2 : sgn n c (q + 2) - 97 = w2
        have hw12 : w2 < 12 := by omega
        have h4'' : aC (aC σ (q + 2)) (q + 2 + 1) 115 4 = nI m := by rw [aC_aC, aC_n (by omega)]; exact h4
        rw [c_add hm8 h4'', if_neg (show ¬ nI K < 2 from fun x => by have : K < 2 := (lt_li (c := 2) (by decide) (by omega)).mp x; omega)]
        simp only [obs]
        rw [if_neg hK1, if_neg (nI_ne_m1 (by omega)), aC_aC]
        simp only [obs, un2]
        refine rd_semi ho ?_ ?_ ?_ ?_ ?_ ?_ ?_ (q := q + 3)
        · have y := F25.aC (p := q + 3)
          rw [aC_aC] at y
          exact ((((((y.aM).M (by omega)).C (by omega)).C (by omega)).C (by omega)).C (by omega)).C (by omega)
        · exact IC_up (IC_up (IC_up (IC_up (IC_up (hc.at (by omega)) (by omega)) (by omega)) (by omega)) (by omega)) (by omega)
        · exact IM_up I25.at (by omega)
        · rw [upm_n (by omega), aM_i (by omega)]; exact w25
        · rw [upm_s, upd_a, if_pos rfl]
        · rw [upm_n (by omega), aM_i (by omega)]; exact e25
        · refine RW_add (K := K) (T := t) (A := nI u) (B := nI w2) hr (fun i hi => ?_) ?_ (by omega) ht (fun _ => ⟨u, hu12, rfl⟩) (fun _ => ⟨w2, hw12, rfl⟩)
          · rw [← hτ25]
            simp (disch := omega) only [upm_n, upm_s, ne_eq, upd_a, if_neg, aC_n, aM_n, s155, s157, r18, and_self]
          · rw [← hτ25]
            simp (disch := omega) only [upm_n, upm_s, ne_eq, upd_a, if_true, aC_n, aM_n, s157, r18]
            exact ⟨trivial, trivial, trivial, trivial, trivial, h156, trivial, (if_neg (by omega)).symm⟩
      · rw [if_neg b, if_neg b]
        simp (disch := omega) only [obs, un2, gN, nI_clamp]
        rw [c_add hm8 h4', if_neg (show ¬ nI K < 2 from fun x => by have : K < 2 := (lt_li (c := 2) (by decide) (by omega)).mp x; omega)]
        simp only [obs, if_true]
        rw [if_neg hK1]
        obtain ⟨σ', τ', p', x, y1, y2, y3, y4⟩ := rd_bad (σ0 := σ0) (τ0 := τ0) (n := n) (q := q + 2) (σ := upm (upm (upm (upm (upm (aC σ (q + 2)) 116 (upd (aC σ (q + 2) 116) m (nI K))) 117 (upd (aC σ (q + 2) 117) m (nI t))) 118 (upd (aC σ (q + 2) 118) m (nI u))) 119 (upd (aC σ (q + 2) 119) m (-1))) 115 (upd (aC σ (q + 2) 115) 4 (nI (m + 1)))) (τ := upm (wM τ25) 158 (upd (wM τ25 158) m 0)) (((((((F25.wM).M (by omega)).C (by omega)).C (by omega)).C (by omega)).C (by omega)).C (by omega)) (by omega) (by simp (disch := omega) only [upm_n, ne_eq]; exact C2.2.1) (by rw [upm_n (by omega), wM_i (by omega)]; exact I25.2.1) (by rw [upm_n (by omega)]; exact wM_45)
        exact ⟨σ', τ', p', x, y1, y2, Or.inr ⟨y3, y4⟩⟩
    · have n1 : ¬ sgn n c (q + 1) = 43 := fun x => op (Or.inl x)
      have n2 : ¬ sgn n c (q + 1) = 45 := fun x => op (Or.inr (Or.inl x))
      have n3 : ¬ sgn n c (q + 1) = 42 := fun x => op (Or.inr (Or.inr x))
      have m1 : ¬ r19 = 43 := fun x => n1 ((er 43 (by omega) (by omega)).mp x)
      have m2 : ¬ r19 = 45 := fun x => n2 ((er 45 (by omega) (by omega)).mp x)
      have m3 : ¬ r19 = 42 := fun x => n3 ((er 42 (by omega) (by omega)).mp x)
      rw [if_neg n1, if_neg n2, if_neg n3]
      rw [MV2_n m1 m2 m3]
      simp only [jn, obs, un2, if_true]
      have h4' : aC σ (q + 1) 115 4 = nI m := by rw [aC_n (by omega)]; exact h4
      rw [c_add hm8 h4', if_pos (by decide)]
      simp only [obs]
      refine rd_semi ho ?_ ?_ ?_ ?_ ?_ ?_ ?_ (q := q + 1)
      · exact ((((F18.C (by omega)).C (by omega)).C (by omega)).C (by omega)).C (by omega)
      · exact IC_up (IC_up (IC_up (IC_up (IC_up C1 (by omega)) (by omega)) (by omega)) (by omega)) (by omega)
      · exact I18
      · exact w18
      · simp only [upm_s, upd_a, if_true]
      · exact e18
      · refine RW_add (K := 1) (T := t) (A := nI u) (B := -1) hr (fun i hi => ?_) ?_ (by omega) ht (fun _ => ⟨u, hu12, rfl⟩) (fun x => by omega)
        · simp (disch := omega) only [upm_n, upm_s, ne_eq, upd_a, if_neg, aC_n, s155, s157, r18, and_self]
        · simp (disch := omega) only [upm_n, upm_s, ne_eq, upd_a, if_true, aC_n, s155, s157, r18]
          exact ⟨rfl, trivial, trivial, trivial, rfl, h156, trivial, (if_pos (by omega)).symm⟩
  · rw [if_neg a, if_neg a]
    simp only [bn2, obs, un2, if_true]
    rw [h50]
    simp (disch := omega) only [obs, bd, jn, bn2, un2, bn3, un3, bns, nI_1, nI_clamp, gN, gN0, gN1, gN2, gN3, nI_leI, nI_ltI, nI_eq, li_le, li_lt, le_li, lt_li, eq_li, li_eq, li_mul, mul_li, add_li, nI_add, m_has, c_has, hI_0, bI_0]
    have e50 : wM τ 123 50 = nI m := (wM_i (by omega)).trans h50
    generalize hτ16 : upm (wM τ) 157 (upd (wM τ 157) m 0) = τ16
    have e16 : τ16 123 50 = nI m := by rw [← hτ16, upm_n (by omega)]; exact e50
    rw [e16]
    simp (disch := omega) only [obs, bd, jn, bn2, un2, bn3, un3, bns, nI_1, nI_clamp, gN, gN0, gN1, gN2, gN3, nI_leI, nI_ltI, nI_eq, li_le, li_lt, le_li, lt_li, eq_li, li_eq, li_mul, mul_li, add_li, nI_add, m_has, c_has, hI_0, bI_0]
    generalize hτ18 : upm τ16 155 (upd (τ16 155) m 1) = τ18
    have F18 : RF σ0 τ0 σ τ18 := hτ18 ▸ hτ16 ▸ ((hf.wM).M (by omega)).M (by omega)
    have w18 : τ18 123 45 = 1 := by rw [← hτ18, upm_n (by omega), ← hτ16, upm_n (by omega)]; exact wM_45
    have e44 : τ18 123 44 = nI q := by rw [← hτ18, upm_n (by omega), ← hτ16, upm_n (by omega), wM_i (by omega)]; exact hm.2.1
    rw [m_signW w18]
    simp only [obs]
    rw [MV2_n (by decide) (by decide) (by decide)]
    obtain ⟨σ', τ', p', x, y1, y2, y3, y4⟩ := rd_bad F18 hq hc.2.1 e44 w18
    exact ⟨σ', τ', p', x, y1, y2, Or.inr ⟨y3, y4⟩⟩
