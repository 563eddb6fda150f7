/-! the end of a block, the model -/
theorem tl_stop {τ τ' : Mm} {P : Pg} {rec : Mm → Option ((Int32 × Mm) ⊕ Unit)} {b : Nat} {r : Int32} (hw : WP P) (hm : MP τ 124 1 P) (hm' : MP τ' 124 1 P) (hb' : b < 8) (h39 : τ 123 39 = nI b) (h39' : τ' 123 39 = nI b) (he : P_e P b = 2) (hg : fX10_got τ (nI (P_v P b)) = some (r, τ')) : mTl rec τ = some (.inl (1, upm τ' 123 (upd (τ' 123) 41 r))) := by
  have m4 : τ 125 b = nI 2 := by rw [← he]; exact hm.2.2.2.1 b hb'
  have m4' : τ' 125 b = nI 2 := by rw [← he]; exact hm'.2.2.2.1 b hb'
  have m5 := hm.2.2.2.2.1 b hb' (by omega)
  unfold mTl
  simp (disch := omega) only [obs, bd, jn, bn2, un2, bn3, un3, bns, nI_1, nI_clamp, gN, gN0, gN1, gN2, gN3, nI_leI, nI_ltI, nI_eq, li_le, li_lt, le_li, lt_li, eq_li, li_eq, li_mul, mul_li, add_li, nI_add, m_has, c_has, hI_0, bI_0, h39, m4, m5, hg, h39', m4']
  simp
theorem tl_go {τ : Mm} {P : Pg} {rec : Mm → Option ((Int32 × Mm) ⊕ Unit)} {b : Nat} (hw : WP P) (hm : MP τ 124 1 P) (hb' : b < 8) (h39 : τ 123 39 = nI b) (he : P_e P b = 0) : mTl rec τ = if τ 123 40 = 0 then rec (upm τ 123 (upd (τ 123) 39 (nI (P_f P b)))) else (fX10_goesInto τ (nI b) (nI (P_f P b))).bind fun σ26 => rec (upm σ26 123 (upd (σ26 123) 39 (nI (P_f P b)))) := by
  have m4 : τ 125 b = nI 0 := by rw [← he]; exact hm.2.2.2.1 b hb'
  have m6 := hm.2.2.2.2.2.1 b hb' (by omega)
  unfold mTl
  simp (disch := omega) only [obs, bd, jn, bn2, un2, bn3, un3, bns, nI_1, nI_clamp, gN, gN0, gN1, gN2, gN3, nI_leI, nI_ltI, nI_eq, li_le, li_lt, le_li, lt_li, eq_li, li_eq, li_mul, mul_li, add_li, nI_add, m_has, c_has, hI_0, bI_0, h39, m4, m6]
  simp
theorem tl_if {τ τ' : Mm} {P : Pg} {rec : Mm → Option ((Int32 × Mm) ⊕ Unit)} {b : Nat} {r : Int32} (hw : WP P) (hm : MP τ 124 1 P) (hm' : MP τ' 124 1 P) (hb' : b < 8) (h39 : τ 123 39 = nI b) (h39' : τ' 123 39 = nI b) (he : P_e P b = 1) (hg : fX10_got τ (nI (P_v P b)) = some (r, τ')) : mTl rec τ = if τ' 123 40 = 0 then rec (upm τ' 123 (upd (τ' 123) 39 (nI (if r = 0 then P_s P b else P_f P b)))) else (fX10_goesInto τ' (nI b) (nI (if r = 0 then P_s P b else P_f P b))).bind fun σ26 => rec (upm σ26 123 (upd (σ26 123) 39 (nI (if r = 0 then P_s P b else P_f P b)))) := by
  have m4 : τ 125 b = nI 1 := by rw [← he]; exact hm.2.2.2.1 b hb'
  have m4' : τ' 125 b = nI 1 := by rw [← he]; exact hm'.2.2.2.1 b hb'
  have m5 := hm.2.2.2.2.1 b hb' (by omega)
  have m6 := hm'.2.2.2.2.2.1 b hb' (by omega)
  have m7 := hm'.2.2.2.2.2.2.1 b hb' he
  unfold mTl
  simp (disch := omega) only [obs, bd, jn, bn2, un2, bn3, un3, bns, nI_1, nI_clamp, gN, gN0, gN1, gN2, gN3, nI_leI, nI_ltI, nI_eq, li_le, li_lt, le_li, lt_li, eq_li, li_eq, li_mul, mul_li, add_li, nI_add, m_has, c_has, hI_0, bI_0, h39, m4, m5, hg, h39', m4', m6, m7]
  by_cases c : r = 0 <;> simp [c]
theorem vlp_cg {P : Pg} {g g' : Nat → Int32} (hw : WP P) {b i : Nat} (hb' : b < 8) (hi : i < P_m P b) (h : ∀ v, v < 12 → g v = g' v) : vlp P b i g = vlp P b i g' := by
  unfold vlp
  by_cases h0 : P_k P b i = 0
  · rw [if_pos h0, if_pos h0]
  · have l1 := (hw.2.2.2.2.2.2.2.2.2.1 b hb' i hi h0).2
    rw [if_neg h0, if_neg h0]
    by_cases h1 : P_k P b i = 1
    · rw [if_pos h1, if_pos h1, h _ l1]
    · have l2 := (hw.2.2.2.2.2.2.2.2.2.2 b hb' i hi (by omega)).2
      rw [if_neg h1, if_neg h1, h _ l1, h _ l2]
def RelP (σ0 τ0 : Mm) (b : Nat) (_i : Nat) (σ τ : Mm) : Prop := Fq [104, 105, 106] σ0 σ ∧ FrM τ0 τ ∧ σ 104 2 = nI b ∧ τ 123 39 = nI b ∧ (∀ v, v < 12 → σ 106 v = τ 146 v) ∧ σ 104 4 = τ 150 1 ∧ σ 104 5 = τ 150 2 ∧ σ 104 6 = τ 150 3
theorem RelP_cl {σ0 τ0 : Mm} : ∀ b i σc σm σc' σm', RelP σ0 τ0 b i σc σm → (∀ j, j ≠ 105 → j ≠ 104 → σc' j = σc j) → (∀ i, i ≠ 3 → σc' 104 i = σc 104 i) → (∀ j, j ≠ 152 → j ≠ 150 → σm' j = σm j) → (∀ i, i ≠ 0 → σm' 150 i = σm 150 i) → RelP σ0 τ0 b i σc' σm' := by
  rintro b i σc σm σc' σm' ⟨h1, h2, h3, h4, h5, h6, h7, h8⟩ q1 q2 q3 q4
  refine ⟨fun j hj => ?_, FrM_cl h2 q3, ?_, ?_, fun v hv => ?_, ?_, ?_, ?_⟩
  · have a1 : j ≠ 105 := fun e => by subst e; simp at hj
    have a2 : j ≠ 104 := fun e => by subst e; simp at hj
    rw [q1 j a1 a2]; exact h1 j hj
  · rw [q2 2 (by omega)]; exact h3
  · rw [q3 123 (by omega) (by omega)]; exact h4
  · rw [q1 106 (by omega) (by omega), q3 146 (by omega) (by omega)]; exact h5 v hv
  · rw [q2 4 (by omega), q4 1 (by omega)]; exact h6
  · rw [q2 5 (by omega), q4 2 (by omega)]; exact h7
  · rw [q2 6 (by omega), q4 3 (by omega)]; exact h8
theorem plain_1 {σ0 τ0 : Mm} {P : Pg} {lim : Nat} (hw : WP P) (hc : CP σ0 1 4 P) (hm : MP τ0 124 1 P) (h40 : τ0 123 40 = 0) : ∀ b i σc σm, b < P_n P → i < P_m P b → RelP σ0 τ0 b i σc σm → ∃ σc' σm', (∀ rec, ¬ nI lim < σc 104 3 → gX3_execute_q_21 (nI lim) rec σc (nI i) = rec (upm σc' 104 (upd (σc' 104) 3 (σc' 104 3 + 1)), nI (i + 1))) ∧ fX10_does σm (nI (8 * b + i)) = some σm' ∧ RelP σ0 τ0 b (i + 1) σc' σm' ∧ σc' 105 = σc 105 ∧ σc' 104 3 = σc 104 3 ∧ σm' 152 = σm 152 ∧ σm' 150 0 = σm 150 0 := by
  rintro b i σ τ hb' hi ⟨h1, h2, h3, h4, h5, h6, h7, h8⟩
  have hn := hw.1.2
  have h8m := hw.2.1 b (by omega)
  have ht := hw.2.2.2.2.2.2.2.2.1 b (by omega) i hi
  have hc1 : CP σ 1 4 P := CP_fq h1 (by simp) hc
  have hm1 := FrM_MP h2 hm
  have c3 := hc1.2.2.1 b (by omega)
  have c10 := hc1.2.2.2.2.2.2.2.2.2.1 b (by omega) i hi
  have z40 : τ 123 40 = 0 := (h2.2 40 (by omega) (by omega) (by omega)).trans h40
  refine ⟨upm σ 106 (upd (σ 106) (P_t P b i) (vlp P b i (σ 106))), upm τ 146 (upd (τ 146) (P_t P b i) (vlp P b i (τ 146))), fun rec hl => ?_, m_does0 hw hm1 z40 (by omega) hi, ⟨h1.up (by simp), h2.up (by simp), ?_, ?_, fun v hv => ?_, ?_, ?_, ?_⟩, ?_, ?_, ?_, ?_⟩
  · unfold gX3_execute_q_21 fX4_put
    rw [if_neg hl, h3]
    simp (disch := omega) only [obs, bd, jn, bn2, un2, bn3, un3, bns, nI_1, nI_clamp, gN, gN0, gN1, gN2, gN3, nI_leI, nI_ltI, nI_eq, li_le, li_lt, le_li, lt_li, eq_li, li_eq, li_mul, mul_li, add_li, nI_add, m_has, c_has, hI_0, bI_0, c3, c10, if_neg, c_valq hw hc1]
  · rw [upm_n (by omega)]; exact h3
  · rw [upm_n (by omega)]; exact h4
  · rw [upm_s, upm_s, upd_a, upd_a, vlp_cg hw (by omega) hi h5, h5 v hv]
  · rw [upm_n (by omega), upm_n (by omega)]; exact h6
  · rw [upm_n (by omega), upm_n (by omega)]; exact h7
  · rw [upm_n (by omega), upm_n (by omega)]; exact h8
  · rw [upm_n (by omega)]
  · rw [upm_n (by omega)]
  · rw [upm_n (by omega)]
  · rw [upm_n (by omega)]
theorem plain_2 {σ0 τ0 : Mm} {P : Pg} {lim : Nat} (hw : WP P) (hc : CP σ0 1 4 P) (hm : MP τ0 124 1 P) (h40 : τ0 123 40 = 0) : ∀ b σc σm, b < P_n P → P_e P b = 2 → RelP σ0 τ0 b (P_m P b) σc σm → ∃ σc' σm', (∀ rec, ¬ nI lim < σc 104 3 → gX3_execute_q_21 (nI lim) rec σc (nI (P_m P b)) = some (.inl (1, σc'))) ∧ (∀ rec, mTl rec σm = some (.inl (1, σm'))) ∧ σc' 104 7 = σm' 123 41 ∧ σc' 104 3 = σc 104 3 ∧ σc' 105 = σc 105 ∧ σm' 152 = σm 152 ∧ σm' 150 0 = σm 150 0 ∧ σc' 104 4 = σm' 150 1 ∧ σc' 104 5 = σm' 150 2 ∧ σc' 104 6 = σm' 150 3 ∧ Fq [104, 105, 106] σ0 σc' ∧ FrM τ0 σm' := by
  rintro b σ τ hb' he ⟨h1, h2, h3, h4, h5, h6, h7, h8⟩
  have hn := hw.1.2
  have h8m := hw.2.1 b (by omega)
  have hv := hw.2.2.2.1 b (by omega) (by omega)
  have hc1 : CP σ 1 4 P := CP_fq h1 (by simp) hc
  have hm1 := FrM_MP h2 hm
  have c3 := hc1.2.2.1 b (by omega)
  have c4 : σ (4 + 5 * b) 5 = nI 2 := by rw [← he]; exact hc1.2.2.2.1 b (by omega)
  have c5 : σ (4 + 5 * b) 6 = nI (P_v P b) := by rw [hc1.2.2.2.2.1 b (by omega), if_neg (by omega)]
  have z40 : τ 123 40 = 0 := (h2.2 40 (by omega) (by omega) (by omega)).trans h40
  refine ⟨upm σ 104 (upd (σ 104) 7 (σ 106 (P_v P b))), upm τ 123 (upd (τ 123) 41 (τ 146 (P_v P b))), fun rec hl => ?_, fun rec => tl_stop hw hm1 hm1 (by omega) h4 h4 he (m_got0 z40 hv), ?_, ?_, ?_, ?_, ?_, ?_, ?_, ?_, h1.up (by simp), h2.u3 (by simp)⟩
  · unfold gX3_execute_q_21 fX4_fetch
    rw [if_neg hl, h3]
    simp (disch := omega) only [obs, bd, jn, bn2, un2, bn3, un3, bns, nI_1, nI_clamp, gN, gN0, gN1, gN2, gN3, nI_leI, nI_ltI, nI_eq, li_le, li_lt, le_li, lt_li, eq_li, li_eq, li_mul, mul_li, add_li, nI_add, m_has, c_has, hI_0, bI_0, c3, c4, c5, if_pos]
    simp
  · rw [upm_s, upm_s, upd_a, upd_a, if_pos rfl, if_pos rfl, h5 _ hv]
  · rw [upm_s, upd_a, if_neg (by omega)]
  · rw [upm_n (by omega)]
  · rw [upm_n (by omega)]
  · rw [upm_n (by omega)]
  · rw [upm_s, upd_a, if_neg (by omega), upm_n (by omega)]; exact h6
  · rw [upm_s, upd_a, if_neg (by omega), upm_n (by omega)]; exact h7
  · rw [upm_s, upd_a, if_neg (by omega), upm_n (by omega)]; exact h8
def nxt (P : Pg) (b : Nat) (r : Int32) : Nat := if P_e P b = 0 then P_f P b else if r = 0 then P_s P b else P_f P b
theorem nxt_gt {P : Pg} {b : Nat} {r : Int32} (hw : WP P) (hb' : b < 8) (he : P_e P b ≠ 2) : gt P b (nxt P b r) = true := by
  have h2 := hw.2.2.1 b hb'
  unfold nxt gt
  by_cases h0 : P_e P b = 0
  · rw [if_pos h0]; simp [h0]
  · have h1 : P_e P b = 1 := by omega
    rw [if_neg h0]
    by_cases c : r = 0 <;> simp [c, h1]
theorem plain_3 {σ0 τ0 : Mm} {P : Pg} {lim : Nat} (hw : WP P) (hc : CP σ0 1 4 P) (hm : MP τ0 124 1 P) (h40 : τ0 123 40 = 0) : ∀ b σc σm, b < P_n P → P_e P b ≠ 2 → RelP σ0 τ0 b (P_m P b) σc σm → ∃ to σc' σm', to < P_n P ∧ (∀ rec, ¬ nI lim < σc 104 3 → gX3_execute_q_21 (nI lim) rec σc (nI (P_m P b)) = rec (upm σc' 104 (upd (σc' 104) 3 (σc' 104 3 + 1)), 0)) ∧ (∀ rec, mTl rec σm = rec σm') ∧ RelP σ0 τ0 to 0 σc' (rst σm') ∧ σc' 105 = upd (σc 105) to (σc 105 to + 1) ∧ σc' 104 3 = σc 104 3 ∧ σm' 152 = σm 152 ∧ σm' 150 0 = σm 150 0 ∧ σm' 123 39 = nI to ∧ MP σm' 124 1 P := by
  rintro b σ τ hb' he ⟨h1, h2, h3, h4, h5, h6, h7, h8⟩
  have hn := hw.1.2
  have h8m := hw.2.1 b (by omega)
  have h22 := hw.2.2.1 b (by omega)
  have hc1 : CP σ 1 4 P := CP_fq h1 (by simp) hc
  have hm1 := FrM_MP h2 hm
  have c3 := hc1.2.2.1 b (by omega)
  have c4 := hc1.2.2.2.1 b (by omega)
  have c5 := hc1.2.2.2.2.1 b (by omega)
  have c6 := hc1.2.2.2.2.2.1 b (by omega)
  have c7 := hc1.2.2.2.2.2.2.1 b (by omega)
  rw [if_neg he] at c6
  have z40 : τ 123 40 = 0 := (h2.2 40 (by omega) (by omega) (by omega)).trans h40
  generalize hto : nxt P b (τ 146 (P_v P b)) = to
  have ht : to < P_n P := by rw [← hto]; exact gt_lt hw (by omega) (nxt_gt hw (by omega) he)
  have eN : fX3_nextBlock_q σ (4 + 5 * b) = some (nI to) := by
    unfold fX3_nextBlock_q fX4_fetch
    rw [← hto]
    unfold nxt
    simp (disch := omega) only [obs, bd, jn, bn2, un2, bn3, un3, bns, nI_1, nI_clamp, gN, gN0, gN1, gN2, gN3, nI_leI, nI_ltI, nI_eq, li_le, li_lt, le_li, lt_li, eq_li, li_eq, li_mul, mul_li, add_li, nI_add, m_has, c_has, hI_0, bI_0, c4]
    by_cases h0 : P_e P b = 0
    · rw [if_pos h0, if_pos h0, c6]
    · have hv := hw.2.2.2.1 b (by omega) h0
      rw [if_neg h0] at c5
      rw [if_pos (show P_e P b = 1 by omega)] at c7
      rw [if_neg h0, if_neg h0, c5, c6, c7]
      simp (disch := omega) only [obs, bd, jn, bn2, un2, bn3, un3, bns, nI_1, nI_clamp, gN, gN0, gN1, gN2, gN3, nI_leI, nI_ltI, nI_eq, li_le, li_lt, le_li, lt_li, eq_li, li_eq, li_mul, mul_li, add_li, nI_add, m_has, c_has, hI_0, bI_0, h5 _ hv]
      by_cases c : τ 146 (P_v P b) = 0 <;> simp [c]
  have eT : ∀ rec, mTl rec τ = rec (upm τ 123 (upd (τ 123) 39 (nI to))) := by
    intro rec
    by_cases h0 : P_e P b = 0
    · rw [tl_go hw hm1 (by omega) h4 h0, if_pos z40, ← hto]
      unfold nxt
      rw [if_pos h0]
    · have hv := hw.2.2.2.1 b (by omega) h0
      rw [tl_if hw hm1 hm1 (by omega) h4 h4 (by omega) (m_got0 z40 hv), if_pos z40, ← hto]
      unfold nxt
      rw [if_neg h0]
  have F2 : FrM τ0 (upm τ 123 (upd (τ 123) 39 (nI to))) := h2.u3 (by simp)
  refine ⟨to, upm (upm σ 104 (upd (σ 104) 2 (nI to))) 105 (upd (σ 105) to (σ 105 to + 1)), upm τ 123 (upd (τ 123) 39 (nI to)), ht, fun rec hl => ?_, eT, ⟨(h1.up (by simp)).up (by simp), FrM_rst F2, ?_, ?_, fun v hv => ?_, ?_, ?_, ?_⟩, ?_, ?_, ?_, ?_, ?_, FrM_MP F2 hm⟩
  · unfold gX3_execute_q_21 fX3_moveTo_q fX4_enter
    rw [if_neg hl, h3]
    simp (disch := omega) only [obs, bd, jn, bn2, un2, bn3, un3, bns, nI_1, nI_clamp, gN, gN0, gN1, gN2, gN3, nI_leI, nI_ltI, nI_eq, li_le, li_lt, le_li, lt_li, eq_li, li_eq, li_mul, mul_li, add_li, nI_add, m_has, c_has, hI_0, bI_0, c3, c4, if_pos, eN, upm_n, ne_eq, he]
    simp
  · rw [upm_n (by omega), upm_s, upd_a, if_pos rfl]
  · rw [rst_3 (by omega), upm_s, upd_a, if_pos rfl]
  · rw [upm_n (by omega), upm_n (by omega), rst_a (by omega) (by omega), upm_n (by omega)]; exact h5 v hv
  · rw [upm_n (by omega), upm_s, upd_a, if_neg (by omega), rst_a (by omega) (by omega), upm_n (by omega)]; exact h6
  · rw [upm_n (by omega), upm_s, upd_a, if_neg (by omega), rst_a (by omega) (by omega), upm_n (by omega)]; exact h7
  · rw [upm_n (by omega), upm_s, upd_a, if_neg (by omega), rst_a (by omega) (by omega), upm_n (by omega)]; exact h8
  · rw [upm_s]
  · rw [upm_n (by omega), upm_s, upd_a, if_neg (by omega)]
  · rw [upm_n (by omega)]
  · rw [upm_n (by omega)]
  · rw [upm_s, upd_a, if_pos rfl]
