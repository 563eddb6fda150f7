/-! loops, costs, plan: reading -/
theorem c_rL {σ : Mm} {P : Pg} (hP : IVp P σ) (x : Int32) : ∃ s, fX9_requireLoop σ x = some (if x < 0 ∨ nI (LC P) ≤ x then 2 else 0, 0, s) ∧ IVp P s ∧ AN s P ∧ s 0 13 = 1 ∧ (∀ j, 97 ≤ j → s j = σ j) ∧ ∀ i, i ≠ 13 → s 0 i = σ 0 i := by
  obtain ⟨s, e, hP1, ha, t, q1, q2⟩ := iv_an hP
  refine ⟨s, ?_, hP1, ha, t, q1, q2⟩
  unfold fX9_requireLoop
  rw [e]
  simp only [obs]
  rw [ha.2.2.2.1]
  by_cases a : x < 0
  · rw [if_pos a, if_pos (Or.inl a)]
  · rw [if_neg a]
    by_cases b : x < nI (LC P)
    · rw [if_pos b, if_neg (fun q => q.elim a (fun r => Int32.not_le.mpr b r))]
    · rw [if_neg b, if_pos (Or.inr (Int32.not_lt.mp b))]
theorem m_inn {τ : Mm} {m : Nat} (hm : m < 2 ^ 30) (x : Int32) : fX10_in τ x 0 (nI m - 1) = some (if x < 0 ∨ nI m ≤ x then 0 else 1) := by
  rcases Nat.eq_zero_or_pos m with e | e
  · subst e
    unfold fX10_in
    by_cases a : x < 0
    · rw [if_pos a, if_pos (Or.inl a)]
    · rw [if_neg a, if_pos (by
        rw [lt_iff]
        have := (not_congr (lt_iff x 0)).mp a
        have e1 : (nI 0 - 1 : Int32).toInt = -1 := by decide
        have e2 : (0 : Int32).toInt = 0 := by decide
        omega), if_pos (show x < 0 ∨ nI 0 ≤ x from Or.inr (Int32.not_lt.mp a))]
  · rw [show nI m - 1 = nI (m - 1) from sub_li (c := 1) e, m_in (by omega), show m - 1 + 1 = m by omega]
theorem m_ll {P : Pg} {τ : Mm} (h : IVp P τ) : ∃ τ1, fX10_layLoops (s3 τ 0 0) = some τ1 ∧ IVp P τ1 ∧ τ1 170 = τ 170 ∧ τ1 123 0 = 0 ∧ LPs τ1 123 137 138 17 P ∧ τ1 123 14 = τ 123 14 ∧ τ1 142 = τ 142 := by
  have h0 := IV_s0 (x := 0) h
  obtain ⟨τ1, e, f, i, l⟩ := m_loops h0.1 h0.2.2.1
  exact ⟨τ1, e, IV_q h0 f (by simp [JK]) (fun k hk => i k (by omega)), by rw [f 170 (by simp), s3_n (by omega)], by rw [i 0 (by omega)]; exact s3_s, l, by rw [i 14 (by omega), s3_i (by omega)], by rw [f 142 (by simp), s3_n (by omega)]⟩
theorem me_loop {σ : Mm} (h : IV σ) (x y : Int32) : METH (fun σ => fX9_loop σ x y) (fun τ => fX10_loop τ x y) [2, 1] σ := by
  obtain ⟨P, hP⟩ := h
  have hw := hP.1
  have hL := LC_le hw
  obtain ⟨s, e, hP1, ha, -, -, -⟩ := c_rL hP x
  rcases ix2 x (n := LC P) (by omega) with hx | ⟨l, hl, rfl⟩
  · rw [if_pos hx] at e
    refine me_fail (e := 2) (k := 1) hP1 ?_ (by decide) (by decide) rfl (fun τ hτ => ?_)
    · show fX9_loop σ x y = _
      unfold fX9_loop
      rw [e, bnTe (by decide)]
    · obtain ⟨τ1, g1, g2, g3, g4, g5, -, -⟩ := m_ll hτ
      refine ⟨τ1, ?_, g2, g3⟩
      show fX10_loop τ x y = _
      unfold fX10_loop
      simp only [bd]
      rw [up0, g1]
      simp only [obs]
      rw [g5.1, m_inn (by omega), if_pos hx]
      rfl
  · have nx : ¬ (nI l < 0 ∨ nI (LC P) ≤ nI l) := fun q => q.elim (nI_ge0 (by omega)) (fun r => by have := (nI_leI (by omega) (by omega)).mp r; omega)
    rw [if_neg nx] at e
    have eC : fX9_loop σ (nI l) y = if y = 0 then some (0, nI (LH P l), s) else if y = 1 then some (0, LB P (LH P l), s) else if y = 2 then some (0, nI (dpt P l), s) else some (1, 0, s) := by
      unfold fX9_loop
      rw [e, bnT0]
      simp (disch := omega) only [gN, nI_clamp, (ha.2.2.2.2 l hl).1, (ha.2.2.2.2 l hl).2, c_depth hw ha.2.2.2 hl, obs]
    have eM : ∀ τ, IVp P τ → ∃ τ1, IVp P τ1 ∧ τ1 170 = τ 170 ∧ τ1 123 0 = 0 ∧ fX10_loop τ (nI l) y = if y = 0 then some (nI (LH P l), τ1) else if y = 1 then some (LB P (LH P l), τ1) else if y = 2 then some (nI (dpt P l), τ1) else some (0, s3 τ1 0 2) := by
      intro τ hτ
      obtain ⟨τ1, g1, g2, g3, g4, g5, -, -⟩ := m_ll hτ
      refine ⟨τ1, g2, g3, g4, ?_⟩
      unfold fX10_loop
      simp only [bd]
      rw [up0, g1]
      simp only [obs]
      rw [g5.1, m_inn (by omega), if_neg nx]
      simp only [obs]
      rw [if_neg (by decide), show fX10_in τ1 y 0 2 = _ from m_in (m := 2) (by omega) y]
      simp only [obs]
      by_cases y0 : y = 0
      · subst y0
        rw [if_neg (by decide : ¬ ((0 : Int32) < 0 ∨ nI (2 + 1) ≤ 0)), if_neg (by decide), m_depth hw g5 hl]
        simp only [obs]
        simp (disch := omega) only [if_true, gN, nI_clamp, (g5.2 l hl).1]
      · by_cases y1 : y = 1
        · subst y1
          rw [if_neg (by decide : ¬ ((1 : Int32) < 0 ∨ nI (2 + 1) ≤ 1)), if_neg (by decide), m_depth hw g5 hl]
          simp only [obs]
          simp (disch := omega) only [if_neg (show ¬ (1 : Int32) = 0 by decide), if_true, gN, nI_clamp, (g5.2 l hl).2]
        · by_cases y2 : y = 2
          · subst y2
            rw [if_neg (by decide : ¬ ((2 : Int32) < 0 ∨ nI (2 + 1) ≤ 2)), if_neg (by decide), m_depth hw g5 hl]
            simp only [obs]
            simp only [if_neg (show ¬ (2 : Int32) = 0 by decide), if_neg (show ¬ (2 : Int32) = 1 by decide), if_true]
          · rcases ix2 y (n := 3) (by omega) with hy | ⟨k, hk, rfl⟩
            · rw [if_pos hy, if_pos rfl, if_neg y0, if_neg y1, if_neg y2]; rfl
            · exfalso
              have : k = 0 ∨ k = 1 ∨ k = 2 := by omega
              rcases this with r | r | r
              · exact y0 (by rw [r]; rfl)
              · exact y1 (by rw [r]; rfl)
              · exact y2 (by rw [r]; rfl)
    have ok : ∀ a, fX9_loop σ (nI l) y = some (0, a, s) → (∀ τ, IVp P τ → ∃ τ1, fX10_loop τ (nI l) y = some (a, τ1) ∧ τ1 170 = τ 170 ∧ τ1 123 0 = 0 ∧ IVp P τ1) → METH (fun σ => fX9_loop σ (nI l) y) (fun τ => fX10_loop τ (nI l) y) [2, 1] σ := fun a hf hg => me_okI hP1 hf hg
    by_cases y0 : y = 0
    · exact ok _ (eC.trans (if_pos y0)) (fun τ hτ => let ⟨τ1, g1, g2, g3, g4⟩ := eM τ hτ; ⟨τ1, g4.trans (if_pos y0), g2, g3, g1⟩)
    · by_cases y1 : y = 1
      · exact ok _ (eC.trans ((if_neg y0).trans (if_pos y1))) (fun τ hτ => let ⟨τ1, g1, g2, g3, g4⟩ := eM τ hτ; ⟨τ1, g4.trans ((if_neg y0).trans (if_pos y1)), g2, g3, g1⟩)
      · by_cases y2 : y = 2
        · exact ok _ (eC.trans ((if_neg y0).trans ((if_neg y1).trans (if_pos y2)))) (fun τ hτ => let ⟨τ1, g1, g2, g3, g4⟩ := eM τ hτ; ⟨τ1, g4.trans ((if_neg y0).trans ((if_neg y1).trans (if_pos y2))), g2, g3, g1⟩)
        · exact me_fail (e := 1) (k := 2) hP1 (eC.trans ((if_neg y0).trans ((if_neg y1).trans (if_neg y2)))) (by decide) (by decide) rfl (fun τ hτ => let ⟨τ1, g1, g2, g3, g4⟩ := eM τ hτ; ⟨τ1, g4.trans ((if_neg y0).trans ((if_neg y1).trans (if_neg y2))), g1, g2⟩)
theorem me_cost {σ : Mm} (h : IV σ) (x y : Int32) : METH (fun σ => fX9_cost σ x y) (fun τ => fX10_cost τ x y) [1, 5] σ := by
  obtain ⟨P, hP⟩ := h
  have hw := hP.1
  rcases ix2 x (n := 12) (by omega) with hx | ⟨v, hv, rfl⟩
  · refine me_f0 hP 1 1 (by decide) (by decide) rfl ?_ (fun τ hτ => ?_)
    · show fX9_cost σ x y = _
      unfold fX9_cost
      rw [c_rVn hx, bnTe (by decide)]
    · show fX10_cost τ x y = _
      unfold fX10_cost
      simp only [bd]
      rw [up0, m_iVn hx]
      rfl
  · obtain ⟨s, e, hP1, ha, t, -, -⟩ := iv_an hP
    have eC : fX9_cost σ (nI v) y = if y = 0 then some (0, nI (mC P v), s) else if cR P v = true then some (0, nI (rC P v), s) else some (5, 0, s) := by
      unfold fX9_cost
      rw [c_rVy hv, bnT0, e]
      simp only [obs]
      rw [c_memoryCost hw hP1.2.1 ha.2.1 ha.1 hv, c_canRe hw hP1.2.1 ha.2.1 ha.1 hv, c_recost hw hP1.2.1 ha.2.1 hv]
      cases cR P v <;> rfl
    have eM : ∀ τ, IVp P τ → ∃ τ1, IVp P τ1 ∧ τ1 170 = τ 170 ∧ τ1 123 0 = 0 ∧ fX10_cost τ (nI v) y = if y = 0 then some (nI (mC P v), τ1) else if cR P v = true then some (nI (rC P v), τ1) else some (0, s3 τ1 0 2) := by
      intro τ hτ
      have hτ0 := IV_s0 (x := 0) hτ
      have f : Fq [135] (s3 τ 0 0) (upm (s3 τ 0 0) 135 (mLV P (s3 τ 0 0 135))) := Fq_rf.up (by simp)
      have hl : ML (upm (s3 τ 0 0) 135 (mLV P (s3 τ 0 0 135))) P := fun t ht => by rw [upm_s]; exact if_pos ht
      have e1 := m_layLive hw hτ0.2.2.1
      generalize upm (s3 τ 0 0) 135 (mLV P (s3 τ 0 0 135)) = τ1 at f hl e1
      have hI := IV_q hτ0 f (by simp [JK]) (fun i _ => by rw [f 123 (by simp)])
      refine ⟨τ1, hI, by rw [f 170 (by simp), s3_n (by omega)], by rw [f 123 (by simp)]; exact s3_s, ?_⟩
      obtain ⟨r, r1, r2⟩ := m_constantRow hw hI.2.2.1 hl hv
      unfold fX10_cost
      simp only [bd]
      rw [up0, m_iVy hv]
      simp only [obs]
      rw [if_neg (by decide), e1]
      simp only [obs]
      rw [m_memoryCost hw hI.2.2.1 hl hv, r1, m_all hI.2.2.1]
      simp only [obs]
      rw [m_sumU hw hI.2.2.1 hv, sU_all hw]
      by_cases y0 : y = 0
      · rw [if_pos y0, if_pos y0]
      · rw [if_neg y0, if_neg y0]
        rcases r2 with ⟨q1, q2⟩ | ⟨q1, b, i, hb', hi, -, -, q2⟩
        · rw [q1, q2, if_neg (by decide), if_neg (by decide)]; rfl
        · have h8 := hw.2.1 b (by have := hw.1.2; omega)
          have hn := hw.1.2
          rw [q1, q2, if_pos (show (0 : Int32) ≤ nI (8 * b + i) from (nI_leI (a := 0) (by omega) (by omega)).mpr (by omega)), if_pos rfl]
          rfl
    by_cases y0 : y = 0
    · exact me_okI hP1 (eC.trans (if_pos y0)) (fun τ hτ => let ⟨τ1, g1, g2, g3, g4⟩ := eM τ hτ; ⟨τ1, g4.trans (if_pos y0), g2, g3, g1⟩)
    · by_cases y1 : cR P v = true
      · exact me_okI hP1 (eC.trans ((if_neg y0).trans (if_pos y1))) (fun τ hτ => let ⟨τ1, g1, g2, g3, g4⟩ := eM τ hτ; ⟨τ1, g4.trans ((if_neg y0).trans (if_pos y1)), g2, g3, g1⟩)
      · exact me_fail (e := 5) (k := 2) hP1 (eC.trans ((if_neg y0).trans (if_neg y1))) (by decide) (by decide) rfl (fun τ hτ => let ⟨τ1, g1, g2, g3, g4⟩ := eM τ hτ; ⟨τ1, g4.trans ((if_neg y0).trans (if_neg y1)), g1, g2⟩)
/-- is there a plan -/
theorem pl_d {P : Pg} {σ : Mm} (h : IVp P σ) : (σ 0 12 = 0 ∧ ∀ τ, IVp P τ → τ 0 12 = σ 0 12 → τ 123 14 = 0) ∨ (σ 0 12 = 1 ∧ σ 0 13 = 1 ∧ σ 123 14 = 1 ∧ ∃ x k, k ≤ 12 ∧ PLc σ P x k ∧ PLm σ P x k) := by
  rcases h.2.2.2.2.1 with ⟨a, b⟩ | ⟨a, b, c, d⟩
  · refine Or.inl ⟨a, fun τ hτ q => ?_⟩
    rcases hτ.2.2.2.2.1 with ⟨a', b'⟩ | ⟨a', b', -⟩
    · exact b'
    · rw [q, a] at a'; exact absurd a' (by decide)
  · exact Or.inr ⟨a, c, b, d⟩
