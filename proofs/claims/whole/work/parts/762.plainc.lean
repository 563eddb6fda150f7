/-! beginning and end of an execution -/
def FrE (τ τ1 : Mm) : Prop := Fq [123, 135, 137, 138, 146, 147, 148, 150, 152, 153] τ τ1 ∧ ∀ i, i ≠ 17 → i ≠ 38 → i ≠ 39 → i ≠ 41 → τ1 123 i = τ 123 i
theorem z_loop {k : Nat} {N : Nat} {g : Nat → Int32} {s0 : Mm} {step : (Mm × Int32 → Option Mm) → Mm × Int32 → Option Mm} (h1 : ∀ i, i < N → ∀ s rec, (∀ j, j ≠ k → s j = s0 j) → step rec (s, nI i) = rec (upm s k (upd (s k) i (g i)), nI (i + 1))) (h2 : ∀ s rec, step rec (s, nI N) = some s) {n : Nat} (hn : N < n) : ∃ s, lp step n (s0, 0) = some s ∧ (Fq [k] s0 s ∧ ∀ i, i < N → s k i = g i) := by
  refine lp_inv2 (fun j s => Fq [k] s0 s ∧ ∀ i, i < j → s k i = g i) N _ ?_ ?_ ⟨Fq_rf, fun i hi => by omega⟩ hn
  · rintro j s hj ⟨f1, f2⟩
    refine ⟨_, fun rec => h1 j hj s rec (fun i hi => f1 i (fun q => hi (List.mem_singleton.mp q))), f1.up (by simp), fun i hi => ?_⟩
    rw [upm_s, upd_a]
    by_cases c : i = j
    · rw [if_pos c, c]
    · rw [if_neg c]; exact f2 i (by omega)
  · rintro s ⟨f1, f2⟩
    exact ⟨s, fun rec => h2 s rec, f1, f2⟩
theorem m_start {τ : Mm} {P : Pg} (hw : WP P) (hm : MP τ 124 1 P) {lim : Int32} : ∃ τ4, fX10_executes τ lim = ((fX10_enters (upm τ4 123 (upd (τ4 123) 39 0))).bind fun σ6 => bns (qX10_executes_58 lim FU σ6) (fun u => some u) (fun _ => none)) ∧ Fq [123, 135, 137, 138, 150, 152] τ τ4 ∧ (∀ i, i ≠ 17 → τ4 123 i = τ 123 i) ∧ (∀ k, k < 4 → τ4 150 k = 0) ∧ (∀ x, x < 8 → τ4 152 x = 0) ∧ ML τ4 P ∧ LPs τ4 123 137 138 17 P := by
  obtain ⟨s1, e1, f1, r1⟩ := z_loop (k := 150) (N := 4) (g := fun _ => 0) (s0 := τ) (step := fun rec s => gX10_executes_2 lim rec s.1 s.2) (fun i hi s rec _ => by
    show gX10_executes_2 lim rec s (nI i) = _
    unfold gX10_executes_2
    simp (disch := omega) only [obs, bd, jn, bn2, un2, bn3, un3, bns, nI_1, nI_clamp, gN, gN0, gN1, gN2, gN3, nI_leI, nI_ltI, nI_eq, li_le, li_lt, le_li, lt_li, eq_li, li_eq, li_mul, mul_li, add_li, nI_add, m_has, c_has, hI_0, bI_0, if_neg]) (fun s rec => by
    show gX10_executes_2 lim rec s (nI 4) = _
    unfold gX10_executes_2
    simp (disch := omega) only [obs, bd, jn, bn2, un2, bn3, un3, bns, nI_1, nI_clamp, gN, gN0, gN1, gN2, gN3, nI_leI, nI_ltI, nI_eq, li_le, li_lt, le_li, lt_li, eq_li, li_eq, li_mul, mul_li, add_li, nI_add, m_has, c_has, hI_0, bI_0, if_pos]) (n := FU) (fu (by omega))
  obtain ⟨s2, e2, f2, r2⟩ := z_loop (k := 152) (N := 8) (g := fun _ => 0) (s0 := s1) (step := fun rec s => gX10_executes_22 lim rec s.1 s.2) (fun i hi s rec _ => by
    show gX10_executes_22 lim rec s (nI i) = _
    unfold gX10_executes_22
    simp (disch := omega) only [obs, bd, jn, bn2, un2, bn3, un3, bns, nI_1, nI_clamp, gN, gN0, gN1, gN2, gN3, nI_leI, nI_ltI, nI_eq, li_le, li_lt, le_li, lt_li, eq_li, li_eq, li_mul, mul_li, add_li, nI_add, m_has, c_has, hI_0, bI_0, if_neg]) (fun s rec => by
    show gX10_executes_22 lim rec s (nI 8) = _
    unfold gX10_executes_22
    simp (disch := omega) only [obs, bd, jn, bn2, un2, bn3, un3, bns, nI_1, nI_clamp, gN, gN0, gN1, gN2, gN3, nI_leI, nI_ltI, nI_eq, li_le, li_lt, le_li, lt_li, eq_li, li_eq, li_mul, mul_li, add_li, nI_add, m_has, c_has, hI_0, bI_0, if_pos]) (n := FU) (fu (by omega))
  have F2 : Fq [123, 135, 137, 138, 150, 152] τ s2 := (f1.wk (by simp)).tr f2 (by simp)
  have hm2 : MP s2 124 1 P := MP_fq (S := [150, 152]) ((f1.wk (by simp)).tr f2 (by simp)) (by simp) (by rw [f2 123 (by simp), f1 123 (by simp)]) hm
  generalize hs3 : upm s2 135 (mLV P (s2 135)) = s3
  have f3 : Fq [135] s2 s3 := hs3 ▸ Fq_rf.up (by simp)
  have l3 : ML s3 P := fun t ht => by rw [← hs3, upm_s]; exact if_pos ht
  have hm3 : MP s3 124 1 P := hs3 ▸ hm2.up (by omega)
  obtain ⟨s4, e4, f4, i4, l4⟩ := m_loops hw hm3
  refine ⟨s4, ?_, (F2.tr f3 (by simp)).tr f4 (by simp), fun i hi => ?_, fun k hk => ?_, fun x hx => ?_, fun t ht => ?_, l4⟩
  · have e1' : qX10_executes_2 lim FU (τ, 0) = some s1 := e1
    have e2' : qX10_executes_22 lim FU (s1, 0) = some s2 := e2
    unfold fX10_executes
    rw [e1']
    simp only [obs]
    rw [e2']
    simp only [obs]
    rw [m_layLive hw hm2, hs3]
    simp only [obs]
    rw [e4]
    rfl
  · rw [i4 i hi, f3 123 (by simp), f2 123 (by simp), f1 123 (by simp)]
  · rw [f4 150 (by simp), f3 150 (by simp), f2 150 (by simp)]; exact r1 k hk
  · rw [f4 152 (by simp), f3 152 (by simp)]; exact r2 x hx
  · rw [f4 135 (by simp)]; exact l3 t ht
theorem m_out0 {τ τ1 : Mm} {lim f : Int32} (h : fX10_executes τ lim = some (0, τ1)) : fX10_outcome τ lim f = some (0, upm τ1 123 (upd (τ1 123) 0 f)) := by
  unfold fX10_outcome
  rw [h]
  simp only [bn2, obs, un2, if_true]
  rfl
theorem m_out1 {τ τ1 : Mm} {lim f : Int32} (h : fX10_executes τ lim = some (1, τ1)) : ∃ τ2, fX10_outcome τ lim f = some (τ1 123 41, τ2) ∧ Fq [149, 151] τ1 τ2 ∧ (∀ k, k < 4 → τ2 149 k = τ1 150 k) ∧ ∀ x, x < 8 → τ2 151 x = τ1 152 x := by
  obtain ⟨s1, e1, f1, r1⟩ := z_loop (k := 149) (N := 4) (g := fun i => τ1 150 i) (s0 := τ1) (step := fun rec s => gX10_outcome_16 rec s.1 s.2) (fun i hi s rec hq => by
    show gX10_outcome_16 rec s (nI i) = _
    have := hq 150 (by omega)
    unfold gX10_outcome_16
    simp (disch := omega) only [obs, bd, jn, bn2, un2, bn3, un3, bns, nI_1, nI_clamp, gN, gN0, gN1, gN2, gN3, nI_leI, nI_ltI, nI_eq, li_le, li_lt, le_li, lt_li, eq_li, li_eq, li_mul, mul_li, add_li, nI_add, m_has, c_has, hI_0, bI_0, if_neg, this]) (fun s rec => by
    show gX10_outcome_16 rec s (nI 4) = _
    unfold gX10_outcome_16
    simp (disch := omega) only [obs, bd, jn, bn2, un2, bn3, un3, bns, nI_1, nI_clamp, gN, gN0, gN1, gN2, gN3, nI_leI, nI_ltI, nI_eq, li_le, li_lt, le_li, lt_li, eq_li, li_eq, li_mul, mul_li, add_li, nI_add, m_has, c_has, hI_0, bI_0, if_pos]) (n := FU) (fu (by omega))
  obtain ⟨s2, e2, f2, r2⟩ := z_loop (k := 151) (N := 8) (g := fun i => s1 152 i) (s0 := s1) (step := fun rec s => gX10_outcome_41 rec s.1 s.2) (fun i hi s rec hq => by
    show gX10_outcome_41 rec s (nI i) = _
    have := hq 152 (by omega)
    unfold gX10_outcome_41
    simp (disch := omega) only [obs, bd, jn, bn2, un2, bn3, un3, bns, nI_1, nI_clamp, gN, gN0, gN1, gN2, gN3, nI_leI, nI_ltI, nI_eq, li_le, li_lt, le_li, lt_li, eq_li, li_eq, li_mul, mul_li, add_li, nI_add, m_has, c_has, hI_0, bI_0, if_neg, this]) (fun s rec => by
    show gX10_outcome_41 rec s (nI 8) = _
    unfold gX10_outcome_41
    simp (disch := omega) only [obs, bd, jn, bn2, un2, bn3, un3, bns, nI_1, nI_clamp, gN, gN0, gN1, gN2, gN3, nI_leI, nI_ltI, nI_eq, li_le, li_lt, le_li, lt_li, eq_li, li_eq, li_mul, mul_li, add_li, nI_add, m_has, c_has, hI_0, bI_0, if_pos]) (n := FU) (fu (by omega))
  have F : Fq [149, 151] τ1 s2 := (f1.wk (by simp)).tr f2 (by simp)
  refine ⟨s2, ?_, F, fun k hk => ?_, fun x hx => ?_⟩
  · have e1' : qX10_outcome_16 FU (τ1, 0) = some s1 := e1
    have e2' : qX10_outcome_41 FU (s1, 0) = some s2 := e2
    unfold fX10_outcome
    rw [h]
    simp only [bn2, obs, un2]
    rw [if_neg (by decide), e1']
    simp only [obs]
    rw [e2']
    simp only [obs]
    rw [F 123 (by simp)]
  · rw [f2 149 (by simp)]; exact r1 k hk
  · rw [r2 x hx, f1 152 (by simp)]
theorem m_enters0 {τ : Mm} {P : Pg} (hm : MP τ 124 1 P) (h40 : τ 123 40 = 0) : ∃ s, fX10_enters τ = some s ∧ Fq [146] τ s ∧ ∀ v, v < 12 → s 146 v = P_i P v := by
  have m2 := hm.2.1
  obtain ⟨s1, e1, f1, r1⟩ := z_loop (k := 146) (N := 12) (g := fun i => P_i P i) (s0 := τ) (step := fun rec s => gX10_enters_2 rec s.1 s.2) (fun i hi s rec hq => by
    show gX10_enters_2 rec s (nI i) = _
    have q1 : s 134 i = P_i P i := by rw [hq 134 (by omega)]; exact m2 i hi
    have q2 : s 123 40 = 0 := by rw [hq 123 (by omega)]; exact h40
    unfold gX10_enters_2
    simp (disch := omega) only [obs, bd, jn, bn2, un2, bn3, un3, bns, nI_1, nI_clamp, gN, gN0, gN1, gN2, gN3, nI_leI, nI_ltI, nI_eq, li_le, li_lt, le_li, lt_li, eq_li, li_eq, li_mul, mul_li, add_li, nI_add, m_has, c_has, hI_0, bI_0, if_neg, q1, upm_n, ne_eq]
    rw [if_pos q2]) (fun s rec => by
    show gX10_enters_2 rec s (nI 12) = _
    unfold gX10_enters_2
    simp (disch := omega) only [obs, bd, jn, bn2, un2, bn3, un3, bns, nI_1, nI_clamp, gN, gN0, gN1, gN2, gN3, nI_leI, nI_ltI, nI_eq, li_le, li_lt, le_li, lt_li, eq_li, li_eq, li_mul, mul_li, add_li, nI_add, m_has, c_has, hI_0, bI_0, if_pos]) (n := FU) (fu (by omega))
  refine ⟨s1, ?_, f1, r1⟩
  have e1' : qX10_enters_2 FU (τ, 0) = some s1 := e1
  unfold fX10_enters
  rw [e1']
  simp only [obs]
  rw [f1 123 (by simp), if_pos h40]
theorem c_startq {σ : Mm} {P : Pg} (hc : CP σ 1 4 P) {lim : Int32} : ∃ σ4, fX3_execute_q σ lim = bns (qX3_execute_q_21 lim FU (σ4, 0)) (fun u => some u) (fun σ5 => some (0, σ5)) ∧ Fq [104, 105, 106] σ σ4 ∧ σ4 104 2 = 0 ∧ σ4 104 3 = 1 ∧ σ4 104 4 = 0 ∧ σ4 104 5 = 0 ∧ σ4 104 6 = 0 ∧ (∀ v, v < 12 → σ4 106 v = P_i P v) ∧ ∀ x, x < 8 → σ4 105 x = if x = 0 then 1 else 0 := by
  have c2 := hc.2.1
  unfold fX3_execute_q fX3_reset_q
  rw [c_fill (by omega)]
  simp only [obs, bd]
  unfold fX4_prepare fX3_moveTo_q fX4_enter
  simp only [obs, bd]
  simp (disch := omega) only [gN0, obs]
  refine ⟨_, rfl, ?_, ?_, ?_, ?_, ?_, ?_, fun v hv => ?_, fun x hx => ?_⟩
  · exact (((((((Fq_rf.up (by simp)).up (by simp)).up (by simp)).up (by simp)).up (by simp)).up (by simp)).up (by simp)).up (by simp)
  · simp (disch := omega) only [upm_s, upm_n, upd_a, ne_eq, if_neg, if_true]
  · simp (disch := omega) only [upm_s, upm_n, upd_a, ne_eq, if_neg, if_true]
  · simp (disch := omega) only [upm_s, upm_n, upd_a, ne_eq, if_neg, if_true]
  · simp (disch := omega) only [upm_s, upm_n, upd_a, ne_eq, if_neg, if_true]
  · simp (disch := omega) only [upm_s, upm_n, upd_a, ne_eq, if_neg, if_true]
  · simp (disch := omega) only [upm_s, upm_n, ne_eq]
    rw [pk_cpy_in (by omega) (by omega), Nat.sub_zero, Nat.zero_add]
    exact c2 v hv
  · simp (disch := omega) only [upm_s, upm_n, upd_a, ne_eq]
    rw [show Int32.toNatClampNeg 0 = 0 from rfl]
    by_cases c : x = 0
    · rw [if_pos c, if_pos c, if_pos (by omega)]; rfl
    · rw [if_neg c, if_neg c, if_pos hx]
theorem plain_run {σ τ : Mm} {P : Pg} {lim : Nat} (hw : WP P) (hc : CP σ 1 4 P) (hm : MP τ 124 1 P) (h40 : τ 123 40 = 0) (hl : lim ≤ 1000) : (∃ σ1 τ1, fX3_execute_q σ (nI lim) = some (0, σ1) ∧ fX10_executes τ (nI lim) = some (0, τ1) ∧ Fq [104, 105, 106] σ σ1 ∧ FrE τ τ1) ∨ (∃ σ1 τ1, fX3_execute_q σ (nI lim) = some (1, σ1) ∧ fX10_executes τ (nI lim) = some (1, τ1) ∧ Fq [104, 105, 106] σ σ1 ∧ FrE τ τ1 ∧ σ1 104 7 = τ1 123 41 ∧ σ1 104 3 = τ1 150 0 ∧ σ1 104 4 = τ1 150 1 ∧ σ1 104 5 = τ1 150 2 ∧ σ1 104 6 = τ1 150 3 ∧ ∀ x, x < 8 → ∃ n, n ≤ 1000 ∧ σ1 105 x = nI n ∧ τ1 152 x = nI n) := by
  have hn0 := hw.1.1
  obtain ⟨τ4, eM, fM, iM, z150, z152, -, -⟩ := m_start (lim := nI lim) hw hm
  have hm4 : MP τ4 124 1 P := MP_fq fM (by simp) (iM 1 (by omega)) hm
  generalize h5 : upm τ4 123 (upd (τ4 123) 39 0) = τ5 at eM
  have F5 : FrM τ4 τ5 := h5 ▸ FrM_rf.u3 (by simp)
  have hm5 := FrM_MP F5 hm4
  have z40 : τ5 123 40 = 0 := (F5.2 40 (by omega) (by omega) (by omega)).trans ((iM 40 (by omega)).trans h40)
  obtain ⟨τ6, e6, f6, r6⟩ := m_enters0 hm5 z40
  have F6 : FrM τ4 τ6 := ⟨F5.1.tr f6 (by simp), fun i a b c => by rw [f6 123 (by simp)]; exact F5.2 i a b c⟩
  obtain ⟨σ4, eC, fC, s2, s3, s4, s5, s6, sv, sx⟩ := c_startq (lim := nI lim) hc
  have z39 : τ6 123 39 = nI 0 := by rw [f6 123 (by simp), ← h5, upm_s, upd_a, if_pos rfl]; rfl
  have y150 : ∀ k, k < 4 → τ6 150 k = 0 := fun k hk => by rw [f6 150 (by simp), ← h5, upm_n (by omega)]; exact z150 k hk
  have hR : RelP σ τ4 0 0 σ4 (rst τ6) := by
    refine ⟨fC, FrM_rst F6, s2, ?_, fun v hv => ?_, ?_, ?_, ?_⟩
    · rw [rst_3 (by omega)]; exact z39
    · rw [rst_a (by omega) (by omega), sv v hv, r6 v hv]
    · rw [rst_a (by omega) (by omega), s4, y150 1 (by omega)]
    · rw [rst_a (by omega) (by omega), s5, y150 2 (by omega)]
    · rw [rst_a (by omega) (by omega), s6, y150 3 (by omega)]
  have hE : ∀ τ', FrM τ4 τ' → FrE τ τ' := fun τ' q => ⟨(fM.wk (by simp)).tr q.1 (by simp), fun i a b c d => (q.2 i b c d).trans (iM i a)⟩
  have h40' : τ4 123 40 = 0 := (iM 40 (by omega)).trans h40
  have key := exec_sk (gC := gX3_execute_q_21 (nI lim)) (pc := 104) (pe := 105) (lim := lim) (P := P) (Rel := RelP σ τ4) (FC := Fq [104, 105, 106] σ) (FM := FrM τ4) hw hl (fun b i σc σm h => ⟨FrM_MP h.2.1 hm4, h.2.2.2.1, h.1, h.2.1⟩) RelP_cl (fun rec s i h => if_pos h) (plain_1 hw hc hm4 h40') (plain_2 hw hc hm4 h40') (plain_3 hw hc hm4 h40') (by omega) lim 0 0 σ4 τ6 (by omega) (by omega) hR z39 (FrM_MP F6 hm4) s3 (y150 0 (by omega)) (fun x hx => ⟨0, Nat.le_refl _, by rw [f6 152 (by simp), ← h5, upm_n (by omega)]; exact z152 x hx, by rw [sx x hx]; split <;> rfl⟩) FU FU (by unfold FU; omega) (by unfold FU; omega)
  rcases key with ⟨σ1, τ1, q1, q2, q3, q4⟩ | ⟨σ1, τ1, q1, q2, q3, q4, q5⟩
  · refine Or.inl ⟨σ1, τ1, ?_, ?_, q3, hE _ q4⟩
    · rw [eC]
      show bns (qX3_execute_q_21 (nI lim) FU (σ4, 0)) _ _ = _
      rw [show qX3_execute_q_21 (nI lim) FU (σ4, 0) = some (.inr σ1) from q1]
      rfl
    · rw [eM, e6]
      simp only [obs]
      rw [show qX10_executes_58 (nI lim) FU τ6 = some (.inl (0, τ1)) from q2]
      rfl
  · refine Or.inr ⟨σ1, τ1, ?_, ?_, q3, hE _ q4, q5⟩
    · rw [eC]
      show bns (qX3_execute_q_21 (nI lim) FU (σ4, 0)) _ _ = _
      rw [show qX3_execute_q_21 (nI lim) FU (σ4, 0) = some (.inl (1, σ1)) from q1]
      rfl
    · rw [eM, e6]
      simp only [obs]
      rw [show qX10_executes_58 (nI lim) FU τ6 = some (.inl (1, τ1)) from q2]
      rfl
