/-! the machine with a plan: its steps -/
theorem q_val {σ0 τ0 : Mm} {P : Pg} {H : Nat → Int32} {k : Nat} {T : Nat → Nat → Int32} (ho : OKp P H k T) (hsq : SQ σ0 P H k T) (hsm : SM τ0 P H T) {b i : Nat} {σ τ : Mm} (hb' : b < P_n P) (hi : i < P_m P b) (hR : RelQ σ0 τ0 P H T b i σ τ) : ∃ r σ' τ', fX3_valueOf_r σ (4 + 5 * b) (nI i) = some (r, σ') ∧ fX10_does τ (nI (8 * b + i)) = ((fX10_puts τ' (nI (P_t P b i)) r).bind fun s => some s) ∧ RelQ σ0 τ0 P H T b i σ' τ' ∧ KP σ τ σ' τ' := by
  have hw := ho.1
  have hn := hw.1.2
  have rows : ∀ s, Fq SC σ0 s → s (4 + 5 * b + 1) i = nI (P_k P b i) ∧ s (4 + 5 * b + 3) i = P_a P b i ∧ s (4 + 5 * b + 4) i = P_b P b i := fun s q => by
    have hc := (SQ_fq q hsq).1.1
    exact ⟨hc.2.2.2.2.2.2.2.2.1 b (by omega) i hi, hc.2.2.2.2.2.2.2.2.2.2.1 b (by omega) i hi, hc.2.2.2.2.2.2.2.2.2.2.2 b (by omega) i hi⟩
  have rowm : ∀ t, FrM τ0 t → t 130 (8 * b + i) = nI (P_k P b i) ∧ t 131 (8 * b + i) = nI (P_t P b i) ∧ t 132 (8 * b + i) = P_a P b i ∧ t 133 (8 * b + i) = P_b P b i := fun t q => by
    have hm := (SM_fr q hsm).1
    exact ⟨hm.2.2.2.2.2.2.2.2.1 b (by omega) i hi, hm.2.2.2.2.2.2.2.2.2.1 b (by omega) i hi, hm.2.2.2.2.2.2.2.2.2.2.1 b (by omega) i hi, hm.2.2.2.2.2.2.2.2.2.2.2 b (by omega) i hi⟩
  have h8 := hw.2.1 b (by omega)
  have hk4 := hw.2.2.2.2.2.2.2.1 b (by omega) i hi
  obtain ⟨c1, c3, c4⟩ := rows σ hR.1
  obtain ⟨d1, d2, d3, d4⟩ := rowm τ hR.2.1
  unfold fX3_valueOf_r fX10_does
  simp (disch := omega) only [obs, bd, jn, bn2, un2, bn3, un3, bns, nI_1, nI_clamp, gN, gN0, gN1, gN2, gN3, nI_leI, nI_ltI, nI_eq, li_le, li_lt, le_li, lt_li, eq_li, li_eq, li_mul, mul_li, add_li, nI_add, m_has, c_has, hI_0, bI_0, c1, c3, d1, d2, d3]
  by_cases h0 : P_k P b i = 0
  · rw [if_pos h0, if_pos h0]
    exact ⟨P_a P b i, σ, τ, rfl, rfl, hR, KP_rf⟩
  · obtain ⟨e1, l1⟩ := hw.2.2.2.2.2.2.2.2.2.1 b (by omega) i hi h0
    have u1 := us_a hw (by omega) hi h0
    obtain ⟨r1, σ1, τ1, f1, f2, f3, f4⟩ := q_fetch ho hsq hsm (show b < 8 by omega) hR l1 (lv_us hi u1) (u_of_us hb' hi u1)
    obtain ⟨a1, a3, a4⟩ := rows σ1 f3.1
    obtain ⟨b1', b2, b3, b4⟩ := rowm τ1 f3.2.1
    rw [if_neg h0, if_neg h0, e1, f1, f2]
    simp (disch := omega) only [obs, bd, jn, bn2, un2, bn3, un3, bns, nI_1, nI_clamp, gN, gN0, gN1, gN2, gN3, nI_leI, nI_ltI, nI_eq, li_le, li_lt, le_li, lt_li, eq_li, li_eq, li_mul, mul_li, add_li, nI_add, m_has, c_has, hI_0, bI_0, a1, a3, a4, b1', b2, b3, b4]
    by_cases h1 : P_k P b i = 1
    · rw [if_pos h1, if_neg (show ¬ 2 ≤ P_k P b i by omega), if_pos h1]
      exact ⟨r1, σ1, τ1, rfl, rfl, f3, f4⟩
    · obtain ⟨e2, l2⟩ := hw.2.2.2.2.2.2.2.2.2.2 b (by omega) i hi (by omega)
      have u2 := us_c hw (b := b) (i := i) (by omega) hi (by omega)
      rw [if_neg h1, if_pos (show 2 ≤ P_k P b i by omega), e1, e2]
      simp (disch := omega) only [nI_eq]
      by_cases q : vc P b i = va P b i
      · rw [if_pos q, if_pos q, if_neg h1]
        by_cases h2 : P_k P b i = 2
        · rw [if_pos h2, if_pos h2]
          exact ⟨_, σ1, τ1, rfl, rfl, f3, f4⟩
        · rw [if_neg h2, if_neg h2]
          by_cases h3 : P_k P b i = 3
          · rw [if_pos h3, if_pos h3]
            exact ⟨_, σ1, τ1, rfl, rfl, f3, f4⟩
          · rw [if_neg h3, if_neg h3]
            exact ⟨_, σ1, τ1, rfl, rfl, f3, f4⟩
      · obtain ⟨r2, σ2, τ2, g1, g2, g3, g4⟩ := q_fetch ho hsq hsm (show b < 8 by omega) f3 l2 (lv_us hi u2) (u_of_us hb' hi u2)
        obtain ⟨s1, s3, s4⟩ := rows σ2 g3.1
        obtain ⟨t1, t2, t3, t4⟩ := rowm τ2 g3.2.1
        rw [if_neg q, if_neg q, g1, g2]
        simp (disch := omega) only [obs, bd, jn, bn2, un2, bn3, un3, bns, nI_1, nI_clamp, gN, gN0, gN1, gN2, gN3, nI_leI, nI_ltI, nI_eq, li_le, li_lt, le_li, lt_li, eq_li, li_eq, li_mul, mul_li, add_li, nI_add, m_has, c_has, hI_0, bI_0, s1, t1, t2]
        rw [if_neg h1]
        by_cases h2 : P_k P b i = 2
        · rw [if_pos h2, if_pos h2]
          exact ⟨_, σ2, τ2, rfl, rfl, g3, f4.tr g4⟩
        · rw [if_neg h2, if_neg h2]
          by_cases h3 : P_k P b i = 3
          · rw [if_pos h3, if_pos h3]
            exact ⟨_, σ2, τ2, rfl, rfl, g3, f4.tr g4⟩
          · rw [if_neg h3, if_neg h3]
            exact ⟨_, σ2, τ2, rfl, rfl, g3, f4.tr g4⟩
theorem q_1 {σ0 τ0 : Mm} {P : Pg} {H : Nat → Int32} {k : Nat} {T : Nat → Nat → Int32} {lim : Nat} (ho : OKp P H k T) (hsq : SQ σ0 P H k T) (hsm : SM τ0 P H T) : ∀ b i σc σm, b < P_n P → i < P_m P b → RelQ σ0 τ0 P H T b i σc σm → ∃ σc' σm', (∀ rec, ¬ nI lim < σc 107 3 → gX3_execute_r_21 (nI lim) rec σc (nI i) = rec (upm σc' 107 (upd (σc' 107) 3 (σc' 107 3 + 1)), nI (i + 1))) ∧ fX10_does σm (nI (8 * b + i)) = some σm' ∧ RelQ σ0 τ0 P H T b (i + 1) σc' σm' ∧ σc' 108 = σc 108 ∧ σc' 107 3 = σc 107 3 ∧ σm' 152 = σm 152 ∧ σm' 150 0 = σm 150 0 := by
  intro b i σ τ hb' hi hR
  have hw := ho.1
  have hn := hw.1.2
  have h8 := hw.2.1 b (by omega)
  have hc := (SQ_fq hR.1 hsq).1.1
  have c3 := hc.2.2.1 b (by omega)
  have c10 := hc.2.2.2.2.2.2.2.2.2.1 b (by omega) i hi
  have h3 := hR.2.2.1
  obtain ⟨r, σ1, τ1, e1, e2, f1, f2⟩ := q_val ho hsq hsm hb' hi hR
  obtain ⟨σ2, τ2, g1, g2, g3, g4⟩ := q_put (x := r) ho hsq hsm hb' hi f1
  have k4 := f2.tr g4
  refine ⟨σ2, τ2, fun rec hl => ?_, ?_, g3, k4.1, k4.2.1, k4.2.2.1, k4.2.2.2⟩
  · unfold gX3_execute_r_21
    rw [if_neg hl, h3]
    simp (disch := omega) only [obs, bd, jn, bn2, un2, bn3, un3, bns, nI_1, nI_clamp, gN, gN0, gN1, gN2, gN3, nI_leI, nI_ltI, nI_eq, li_le, li_lt, le_li, lt_li, eq_li, li_eq, li_mul, mul_li, add_li, nI_add, m_has, c_has, hI_0, bI_0, c3, if_neg, e1, c10, g1]
  · rw [e2, g2]
    rfl
theorem RelQ_i {σ0 τ0 : Mm} {P : Pg} {H : Nat → Int32} {T : Nat → Nat → Int32} {b i : Nat} {σ τ : Mm} (h : RelQ σ0 τ0 P H T b i σ τ) : Fq SC σ0 σ ∧ FrM τ0 τ ∧ CTS σ τ := ⟨h.1, h.2.1, h.2.2.2.2.2.1⟩
theorem q_2 {σ0 τ0 : Mm} {P : Pg} {H : Nat → Int32} {k : Nat} {T : Nat → Nat → Int32} {lim : Nat} (ho : OKp P H k T) (hsq : SQ σ0 P H k T) (hsm : SM τ0 P H T) : ∀ b σc σm, b < P_n P → P_e P b = 2 → RelQ σ0 τ0 P H T b (P_m P b) σc σm → ∃ σc' σm', (∀ rec, ¬ nI lim < σc 107 3 → gX3_execute_r_21 (nI lim) rec σc (nI (P_m P b)) = some (.inl (1, σc'))) ∧ (∀ rec, mTl rec σm = some (.inl (1, σm'))) ∧ σc' 107 7 = σm' 123 41 ∧ σc' 107 3 = σc 107 3 ∧ σc' 108 = σc 108 ∧ σm' 152 = σm 152 ∧ σm' 150 0 = σm 150 0 ∧ σc' 107 4 = σm' 150 1 ∧ σc' 107 5 = σm' 150 2 ∧ σc' 107 6 = σm' 150 3 ∧ Fq SC σ0 σc' ∧ FrM τ0 σm' := by
  intro b σ τ hb' he hR
  have hw := ho.1
  have hn := hw.1.2
  have h8m := hw.2.1 b (by omega)
  have hv := hw.2.2.2.1 b (by omega) (by omega)
  have hc1 := (SQ_fq hR.1 hsq).1.1
  have hm1 := (SM_fr hR.2.1 hsm).1
  have c3 := hc1.2.2.1 b (by omega)
  have c4 : σ (4 + 5 * b) 5 = nI 2 := by rw [← he]; exact hc1.2.2.2.1 b (by omega)
  have c5 : σ (4 + 5 * b) 6 = nI (P_v P b) := by rw [hc1.2.2.2.2.1 b (by omega), if_neg (by omega)]
  have u1 := eu_v hw (show b < 8 by omega) (by omega)
  obtain ⟨r, σ1, τ1, f1, f2, f3, f4⟩ := q_fetch ho hsq hsm (show b < 8 by omega) hR hv (lv_end u1) (u_of_eu hb' u1)
  have hm2 := (SM_fr f3.2.1 hsm).1
  refine ⟨upm σ1 107 (upd (σ1 107) 7 r), upm τ1 123 (upd (τ1 123) 41 r), fun rec hl => ?_, fun rec => tl_stop hw hm1 hm2 (by omega) hR.2.2.2.1 f3.2.2.2.1 he f2, ?_, ?_, ?_, ?_, ?_, ?_, ?_, ?_, f3.1.up (by simp [SC]), f3.2.1.u3 (by simp)⟩
  · unfold gX3_execute_r_21
    rw [if_neg hl, hR.2.2.1]
    simp (disch := omega) only [obs, bd, jn, bn2, un2, bn3, un3, bns, nI_1, nI_clamp, gN, gN0, gN1, gN2, gN3, nI_leI, nI_ltI, nI_eq, li_le, li_lt, le_li, lt_li, eq_li, li_eq, li_mul, mul_li, add_li, nI_add, m_has, c_has, hI_0, bI_0, c3, c4, c5, if_pos, f1]
    simp
  · rw [upm_s, upm_s, upd_a, upd_a, if_pos rfl, if_pos rfl]
  · rw [upm_s, upd_a, if_neg (by omega)]; exact f4.2.1
  · rw [upm_n (by omega)]; exact f4.1
  · rw [upm_n (by omega)]; exact f4.2.2.1
  · rw [upm_n (by omega)]; exact f4.2.2.2
  · rw [upm_s, upd_a, if_neg (by omega), upm_n (by omega)]; exact (RelQ_i f3).2.2.1
  · rw [upm_s, upd_a, if_neg (by omega), upm_n (by omega)]; exact (RelQ_i f3).2.2.2.1
  · rw [upm_s, upd_a, if_neg (by omega), upm_n (by omega)]; exact (RelQ_i f3).2.2.2.2
/-- behind q_enter: the relation at the new block -/
theorem q_rel {σ0 τ0 σ τ : Mm} {P : Pg} {H : Nat → Int32} {T : Nat → Nat → Int32} {to : Nat} {σ' : Mm} (hto : to < P_n P) (h1 : Fq SC σ0 σ) (h2 : FrM τ0 τ) (h3 : CTS σ τ) (h4 : ∀ j, j < 2 → σ 112 j = -1) (h5 : σ 107 13 = 1) (h6 : hb (RE P 8) to = true) (h7 : ∀ v, v < 12 → hb (LV P to) v = true → LE1 P H T to v σ τ) (hf : ∀ j, j ≠ 107 → j ≠ 108 → σ' j = σ j) (h2' : σ' 107 2 = nI to) (hi : ∀ i, i ≠ 2 → i ≠ 3 → σ' 107 i = σ 107 i) : RelQ σ0 τ0 P H T to 0 σ' (rst (upm τ 123 (upd (τ 123) 39 (nI to)))) := by
  have F2 : FrM τ0 (upm τ 123 (upd (τ 123) 39 (nI to))) := h2.u3 (by simp)
  have z : ∀ j, j ≠ 123 → j ≠ 153 → rst (upm τ 123 (upd (τ 123) 39 (nI to))) j = τ j := fun j a b => by rw [rst_a a b, upm_n a]
  refine ⟨fun j hj => ?_, FrM_rst F2, h2', ?_, h6, ⟨?_, ?_, ?_⟩, ⟨fun j hj => ?_, Or.inl ⟨?_, rst_38⟩, fun v hv q => ?_⟩, fun j v hj hv _ _ hh _ => ?_, fun v hv hl => ?_⟩
  · have a1 : j ≠ 108 := fun e => by subst e; simp [SC] at hj
    have a2 : j ≠ 107 := fun e => by subst e; simp [SC] at hj
    rw [hf j a2 a1]; exact h1 j hj
  · rw [rst_3 (by omega), upm_s, upd_a, if_pos rfl]
  · rw [hi 4 (by omega) (by omega), z 150 (by omega) (by omega)]; exact h3.1
  · rw [hi 5 (by omega) (by omega), z 150 (by omega) (by omega)]; exact h3.2.1
  · rw [hi 6 (by omega) (by omega), z 150 (by omega) (by omega)]; exact h3.2.2
  · rw [hf 112 (by omega) (by omega), h4 j hj, rst_s hj]
  · rw [hi 13 (by omega) (by omega)]; exact h5
  · rw [hf 112 (by omega) (by omega), h4 0 (by omega)] at q
    exact nI_ne_m1 (by omega) q.1.symm
  · rw [hf 112 (by omega) (by omega), h4 j hj] at hh
    exact absurd hh.symm (nI_ne_m1 (by omega))
  · rw [← LV_fix hto] at hl
    obtain ⟨a1, a2⟩ := h7 v hv hl
    refine ⟨fun hH => ?_, fun hH => ⟨fun l c b1' b2 b3 b4 => ?_, fun a => ?_⟩⟩
    · rw [hf 109 (by omega) (by omega), z 147 (by omega) (by omega)]; exact a1 hH
    · rw [hf 109 (by omega) (by omega), z 147 (by omega) (by omega)]; exact (a2 hH).1 l c b1' b2 b3 b4
    · rw [hf 110 (by omega) (by omega), z 148 (by omega) (by omega)]; exact (a2 hH).2 a
theorem q_3 {σ0 τ0 : Mm} {P : Pg} {H : Nat → Int32} {k : Nat} {T : Nat → Nat → Int32} {lim : Nat} (ho : OKp P H k T) (hsq : SQ σ0 P H k T) (hsm : SM τ0 P H T) : ∀ b σc σm, b < P_n P → P_e P b ≠ 2 → RelQ σ0 τ0 P H T b (P_m P b) σc σm → ∃ to σc' σm', to < P_n P ∧ (∀ rec, ¬ nI lim < σc 107 3 → gX3_execute_r_21 (nI lim) rec σc (nI (P_m P b)) = rec (upm σc' 107 (upd (σc' 107) 3 (σc' 107 3 + 1)), 0)) ∧ (∀ rec, mTl rec σm = rec σm') ∧ RelQ σ0 τ0 P H T to 0 σc' (rst σm') ∧ σc' 108 = upd (σc 108) to (σc 108 to + 1) ∧ σc' 107 3 = σc 107 3 ∧ σm' 152 = σm 152 ∧ σm' 150 0 = σm 150 0 ∧ σm' 123 39 = nI to ∧ MP σm' 124 1 P := by
  intro b σ τ hb' he hR
  have hw := ho.1
  have hn := hw.1.2
  have h8m := hw.2.1 b (by omega)
  have h22 := hw.2.2.1 b (by omega)
  have hc1 := (SQ_fq hR.1 hsq).1.1
  have hm1 := (SM_fr hR.2.1 hsm).1
  have c3 := hc1.2.2.1 b (by omega)
  have c4 := hc1.2.2.2.1 b (by omega)
  have c5 := hc1.2.2.2.2.1 b (by omega)
  have h40 : ∀ t, FrM τ0 t → ¬ t 123 40 = 0 := fun t q => by rw [(SM_fr q hsm).2.2.2.2.2.2.2]; decide
  have key : ∃ to σ1 τ1, gt P b to = true ∧ fX3_nextBlock_r σ (4 + 5 * b) = some (nI to, σ1) ∧ (∀ rec, mTl rec τ = (fX10_goesInto τ1 (nI b) (nI to)).bind fun s => rec (upm s 123 (upd (s 123) 39 (nI to)))) ∧ RelQ σ0 τ0 P H T b (P_m P b) σ1 τ1 ∧ KP σ τ σ1 τ1 := by
    by_cases h0 : P_e P b = 0
    · have c6 := hc1.2.2.2.2.2.1 b (by omega)
      rw [if_neg he] at c6
      refine ⟨P_f P b, σ, τ, ?_, ?_, fun rec => ?_, hR, KP_rf⟩
      · have := nxt_gt (r := 0) hw (show b < 8 by omega) he
        unfold nxt at this
        rw [if_pos h0] at this
        exact this
      · unfold fX3_nextBlock_r
        rw [c4, h0, if_pos (show nI 0 = 0 from rfl), c6]
      · rw [tl_go hw hm1 (by omega) hR.2.2.2.1 h0, if_neg (h40 τ hR.2.1)]
    · have hv := hw.2.2.2.1 b (by omega) h0
      have u1 := eu_v hw (show b < 8 by omega) h0
      obtain ⟨r, σ1, τ1, f1, f2, f3, f4⟩ := q_fetch ho hsq hsm (show b < 8 by omega) hR hv (lv_end u1) (u_of_eu hb' u1)
      have hc2 := (SQ_fq f3.1 hsq).1.1
      have c6 := hc2.2.2.2.2.2.1 b (by omega)
      have c7 := hc2.2.2.2.2.2.2.1 b (by omega)
      rw [if_neg he] at c6
      rw [if_pos (show P_e P b = 1 by omega)] at c7
      rw [if_neg h0] at c5
      refine ⟨if r = 0 then P_s P b else P_f P b, σ1, τ1, ?_, ?_, fun rec => ?_, f3, f4⟩
      · have := nxt_gt (r := r) hw (show b < 8 by omega) he
        unfold nxt at this
        rw [if_neg h0] at this
        exact this
      · unfold fX3_nextBlock_r
        rw [c4, if_neg (fun q => h0 ((eq_li (c := 0) (by decide) (by omega)).mp q)), c5, f1]
        simp only [bn2, obs, un2]
        by_cases c : r = 0
        · rw [if_pos c, if_pos c, c7]
        · rw [if_neg c, if_neg c, c6]
      · rw [tl_if hw hm1 (SM_fr f3.2.1 hsm).1 (by omega) hR.2.2.2.1 f3.2.2.2.1 (by omega) f2, if_neg (h40 τ1 f3.2.1)]
  obtain ⟨to, σ1, τ1, g0, g1, g2, g3, g4⟩ := key
  have ht : to < P_n P := gt_lt hw (by omega) g0
  have hr := g3.2.2.2.2.1
  have hr2 := RE_cl hw hr g0 (by omega)
  obtain ⟨σ2, τ2, e1, e2, p1, p2, p3, p4, p5, p6, p7, p8, p9, p10, p11⟩ := q_enter ho hsq hsm (show b ≤ 8 by omega) ht g3.1 g3.2.1 (RelQ_i g3).2.2 (fun l hl a1 a2 => by
    apply Classical.byContradiction
    intro q
    have := LB_cl hw (h := LH P l) (by have := LH_lt hl; omega) hr g0 a1 (fun e => q e.symm)
    rw [show LB P (LH P l) = BD P l from rfl, a2] at this
    cases this) (fun v hv hl => g3.2.2.2.2.2.2.2.2 v hv (lv_to ht g0 hl))
  rw [show wI b = nI b from if_pos (by omega)] at e1 e2
  refine ⟨to, upm (upm σ2 107 (upd (σ2 107) 2 (nI to))) 108 (upd (σ2 108) to (σ2 108 to + 1)), upm τ2 123 (upd (τ2 123) 39 (nI to)), ht, fun rec hl => ?_, fun rec => by rw [g2, e2]; rfl, q_rel ht p1 p2 p3 p4 p5 hr2 p11 (fun j a1 a2 => by rw [upm_n a2, upm_n a1]) ?_ (fun i a1 a2 => ?_), ?_, ?_, ?_, ?_, ?_, ?_⟩
  · unfold gX3_execute_r_21 fX3_moveTo_r
    rw [if_neg hl, hR.2.2.1]
    simp (disch := omega) only [obs, bd, jn, bn2, un2, bn3, un3, bns, nI_1, nI_clamp, gN, gN0, gN1, gN2, gN3, nI_leI, nI_ltI, nI_eq, li_le, li_lt, le_li, lt_li, eq_li, li_eq, li_mul, mul_li, add_li, nI_add, m_has, c_has, hI_0, bI_0, c3, c4, if_pos, g1, e1, upm_n, ne_eq, he]
    simp
  · rw [upm_n (by omega), upm_s, upd_a, if_pos rfl]
  · rw [upm_n (by omega), upm_s, upd_a, if_neg a1]
  · rw [upm_s, p7, g4.1]
  · rw [upm_n (by omega), upm_s, upd_a, if_neg (by omega), p6 3 (by omega) (by omega) (by omega), g4.2.1]
  · rw [upm_n (by omega), p8, g4.2.2.1]
  · rw [upm_n (by omega), p9, g4.2.2.2]
  · rw [upm_s, upd_a, if_pos rfl]
  · exact FrM_MP (p2.u3 (by simp)) hsm.1
