/-! snapshots -/
theorem c_cpC {σ : Mm} {k k1 : Nat} (hd : k + 4 < k1 ∨ k1 + 4 < k) : ∃ σ', fX0_copyCode σ k k1 = some σ' ∧ (∀ j, j < k ∨ k + 4 < j → σ' j = σ j) ∧ σ' k 9 = σ k 9 ∧ ∀ m e v f s w w' K T A B, m ≤ 8 → e ≤ 2 → BC σ k1 m e v f s w K T A B → BC (upm σ' k (upd (σ' k) 9 (nI w'))) k m e v f s w' K T A B := by
  let σ5 : Mm := upm (upm (upm (upm (upm σ (k + 1) (va_cpy (σ (k1 + 1)) (σ (k + 1)) 0 0 8)) (k + 2) (va_cpy (σ (k1 + 2)) (σ (k + 2)) 0 0 8)) (k + 3) (va_cpy (σ (k1 + 3)) (σ (k + 3)) 0 0 8)) (k + 4) (va_cpy (σ (k1 + 4)) (σ (k + 4)) 0 0 8)) k (upd (σ k) 4 (σ k1 4))
  obtain ⟨v5, v6, v7, v8, vo⟩ := @FN_v σ5 k (σ k1 5) (σ k1 6) (σ k1 7) (σ k1 8)
  have k5 : σ5 k = upd (σ k) 4 (σ k1 4) := upm_s
  have fo : ∀ j, j ≠ k → FN σ5 k (σ k1 5) (σ k1 6) (σ k1 7) (σ k1 8) j = σ5 j := fun j hj => upm_n hj
  have cp : ∀ {f g : Nat → Int32} {i : Nat}, i < 8 → va_cpy f g 0 0 8 i = f i := fun {f g i} hi => by
    unfold va_cpy
    rw [if_pos ⟨Nat.zero_le _, by omega⟩, Nat.zero_add, Nat.sub_zero]
  refine ⟨FN σ5 k (σ k1 5) (σ k1 6) (σ k1 7) (σ k1 8), ?_, fun j hj => ?_, ?_, fun m e v f s w w' K T A B hm he hB => ?_⟩
  · unfold fX0_copyCode
    simp only [bd]
    simp (disch := omega) only [upm_n, ne_eq]
    rw [c_FN]
    rfl
  · rw [fo j (by omega)]
    show upm (upm (upm (upm (upm σ (k + 1) _) (k + 2) _) (k + 3) _) (k + 4) _) k _ j = σ j
    rw [upm_n (by omega), upm_n (by omega), upm_n (by omega), upm_n (by omega), upm_n (by omega)]
  · rw [vo 9 (by omega), k5, upd_a, if_neg (by omega)]
  · obtain ⟨b4, b5, b6, b7, b8, -, b10⟩ := hB
    refine ⟨?_, ?_, ?_, ?_, ?_, ?_, fun i hi => ?_⟩
    · rw [upm_s, upd_a, if_neg (by omega), vo 4 (by omega), k5, upd_a, if_pos rfl]; exact b4
    · rw [upm_s, upd_a, if_neg (by omega), v5]; exact b5
    · rw [upm_s, upd_a, if_neg (by omega), v6, b5, b6]
      by_cases q : e = 0
      · rw [if_pos q, q]; rfl
      · rw [if_neg q, if_neg (fun r => q ((eq_li (c := 0) (by decide) (by omega)).mp r))]
    · rw [upm_s, upd_a, if_neg (by omega), v7, b5, b7]
      by_cases q : e = 2
      · rw [if_pos q, q]; rfl
      · rw [if_neg q, if_neg (fun r => q ((eq_li (c := 2) (by decide) (by omega)).mp r))]
    · rw [upm_s, upd_a, if_neg (by omega), v8, b5, b8]
      by_cases q : e = 1
      · rw [if_pos q, q]; rfl
      · rw [if_neg q, if_neg (fun r => q ((eq_li (c := 1) (by decide) (by omega)).mp r))]
    · rw [upm_s, upd_a, if_pos rfl]
    · rw [upm_n (by omega), upm_n (by omega), upm_n (by omega), upm_n (by omega), fo _ (by omega), fo _ (by omega), fo _ (by omega), fo _ (by omega)]
      have g1 : σ5 (k + 1) i = σ (k1 + 1) i := by
        show upm (upm (upm (upm (upm σ (k + 1) _) (k + 2) _) (k + 3) _) (k + 4) _) k _ (k + 1) i = _
        rw [upm_n (by omega), upm_n (by omega), upm_n (by omega), upm_n (by omega), upm_s, cp (by omega)]
      have g2 : σ5 (k + 2) i = σ (k1 + 2) i := by
        show upm (upm (upm (upm (upm σ (k + 1) _) (k + 2) _) (k + 3) _) (k + 4) _) k _ (k + 2) i = _
        rw [upm_n (by omega), upm_n (by omega), upm_n (by omega), upm_s, cp (by omega)]
      have g3 : σ5 (k + 3) i = σ (k1 + 3) i := by
        show upm (upm (upm (upm (upm σ (k + 1) _) (k + 2) _) (k + 3) _) (k + 4) _) k _ (k + 3) i = _
        rw [upm_n (by omega), upm_n (by omega), upm_s, cp (by omega)]
      have g4 : σ5 (k + 4) i = σ (k1 + 4) i := by
        show upm (upm (upm (upm (upm σ (k + 1) _) (k + 2) _) (k + 3) _) (k + 4) _) k _ (k + 4) i = _
        rw [upm_n (by omega), upm_s, cp (by omega)]
      rw [g1, g2, g3, g4]
      exact b10 i hi
theorem c_save {σ : Mm} {P : Pg} (hw : WP P) (hc : CP σ 1 4 P) : ∃ σ', fX7_copy_s_1 σ = some σ' ∧ (∀ j, j < 44 ∨ 86 < j → σ' j = σ j) ∧ CP σ' 44 47 P := by
  obtain ⟨c1, c2, c3⟩ := CP_if.mp hc
  obtain ⟨s, e, ⟨f, r⟩⟩ : ∃ s, qX7_copy_s_1_2 FU (σ, 0) = some s ∧ ((∀ j, j < 47 ∨ 86 < j → s j = σ j) ∧ ∀ b, b < 8 → BC s (47 + 5 * b) (P_m P b) (P_e P b) (P_v P b) (P_f P b) (P_s P b) (P_q P b) (P_k P b) (P_t P b) (P_a P b) (P_b P b)) := by
    refine lp_inv2e (fun k s => (∀ j, j < 47 ∨ 86 < j → s j = σ j) ∧ ∀ b, b < k → BC s (47 + 5 * b) (P_m P b) (P_e P b) (P_v P b) (P_f P b) (P_s P b) (P_q P b) (P_k P b) (P_t P b) (P_a P b) (P_b P b)) 8 _ ?_ ?_ ⟨fun _ _ => rfl, fun c hc => by omega⟩ (fu (by omega))
    · rintro k s hk ⟨j1, j2⟩
      obtain ⟨s', e, f, -, r⟩ := @c_cpC s (47 + 5 * k) (4 + 5 * k) (by omega)
      have hB := BC_cg (fun j _ _ => j1 j (by omega)) (c3 k hk)
      have h9 : s' (4 + 5 * k) 9 = nI (P_q P k) := by rw [f _ (by omega)]; exact hB.2.2.2.2.2.1
      refine Or.inr ⟨upm s' (47 + 5 * k) (upd (s' (47 + 5 * k)) 9 (nI (P_q P k))), fun rec => ?_, fun j hj => ?_, fun b hb' => ?_⟩
      · show gX7_copy_s_1_2 rec s (nI k) = _
        unfold gX7_copy_s_1_2
        simp (disch := omega) only [obs, bd, jn, bn2, un2, bn3, un3, bns, nI_1, nI_clamp, gN, gN0, gN1, gN2, gN3, nI_leI, nI_ltI, nI_eq, li_le, li_lt, le_li, lt_li, eq_li, li_eq, li_mul, mul_li, add_li, nI_add, m_has, c_has, hI_0, bI_0, if_neg, e, h9]
      · rw [upm_n (by omega), f j (by omega)]; exact j1 j hj
      · by_cases q : b = k
        · subst q; exact r _ _ _ _ _ _ _ _ _ _ _ (hw.2.1 b hk) (hw.2.2.1 b hk) hB
        · exact BC_cg (fun j _ _ => by rw [upm_n (by omega), f j (by omega)]) (j2 b (by omega))
    · rintro s hs
      refine ⟨s, fun rec => ?_, hs⟩
      show gX7_copy_s_1_2 rec s (nI 8) = _
      unfold gX7_copy_s_1_2
      simp (disch := omega) only [obs, bd, jn, bn2, un2, bn3, un3, bns, nI_1, nI_clamp, gN, gN0, gN1, gN2, gN3, nI_leI, nI_ltI, nI_eq, li_le, li_lt, le_li, lt_li, eq_li, li_eq, li_mul, mul_li, add_li, nI_add, m_has, c_has, hI_0, bI_0, if_pos]
  refine ⟨upm (upm s 46 (va_cpy (s 3) (s 46) 0 0 12)) 44 (upd (s 44) 2 (s 1 2)), ?_, fun j hj => ?_, CP_if.mpr ⟨?_, fun v hv => ?_, fun b hb' => BC_cg (fun j _ _ => by rw [upm_n (by omega), upm_n (by omega)]) (r b hb')⟩⟩
  · unfold fX7_copy_s_1
    rw [e]
    simp only [obs, bd]
    rw [upm_n (by omega), upm_n (by omega)]
  · rw [upm_n (by omega), upm_n (by omega), f j (by omega)]
  · rw [upm_s, upd_a, if_pos rfl, f 1 (by omega)]; exact c1
  · rw [upm_n (by omega), upm_s]
    unfold va_cpy
    rw [if_pos ⟨Nat.zero_le _, by omega⟩, Nat.zero_add, Nat.sub_zero, f 3 (by omega)]
    exact c2 v hv
theorem c_rest {σ : Mm} {P : Pg} (hw : WP P) (hc : CP σ 44 47 P) : ∃ σ', fX7_copy_p_44 σ = some σ' ∧ (∀ j, j = 0 ∨ 44 ≤ j → σ' j = σ j) ∧ CP σ' 1 4 P := by
  obtain ⟨c1, c2, c3⟩ := CP_if.mp hc
  obtain ⟨s, e, ⟨f, r⟩⟩ : ∃ s, qX7_copy_p_44_2 FU (σ, 0) = some s ∧ ((∀ j, j < 4 ∨ 43 < j → s j = σ j) ∧ ∀ b, b < 8 → BC s (4 + 5 * b) (P_m P b) (P_e P b) (P_v P b) (P_f P b) (P_s P b) (P_q P b) (P_k P b) (P_t P b) (P_a P b) (P_b P b)) := by
    refine lp_inv2e (fun k s => (∀ j, j < 4 ∨ 43 < j → s j = σ j) ∧ ∀ b, b < k → BC s (4 + 5 * b) (P_m P b) (P_e P b) (P_v P b) (P_f P b) (P_s P b) (P_q P b) (P_k P b) (P_t P b) (P_a P b) (P_b P b)) 8 _ ?_ ?_ ⟨fun _ _ => rfl, fun c hc => by omega⟩ (fu (by omega))
    · rintro k s hk ⟨j1, j2⟩
      obtain ⟨s', e, f, -, r⟩ := @c_cpC s (4 + 5 * k) (47 + 5 * k) (by omega)
      have hB := BC_cg (fun j _ _ => j1 j (by omega)) (c3 k hk)
      have h9 : s' (47 + 5 * k) 9 = nI (P_q P k) := by rw [f _ (by omega)]; exact hB.2.2.2.2.2.1
      refine Or.inr ⟨upm s' (4 + 5 * k) (upd (s' (4 + 5 * k)) 9 (nI (P_q P k))), fun rec => ?_, fun j hj => ?_, fun b hb' => ?_⟩
      · show gX7_copy_p_44_2 rec s (nI k) = _
        unfold gX7_copy_p_44_2
        simp (disch := omega) only [obs, bd, jn, bn2, un2, bn3, un3, bns, nI_1, nI_clamp, gN, gN0, gN1, gN2, gN3, nI_leI, nI_ltI, nI_eq, li_le, li_lt, le_li, lt_li, eq_li, li_eq, li_mul, mul_li, add_li, nI_add, m_has, c_has, hI_0, bI_0, if_neg, e, h9]
      · rw [upm_n (by omega), f j (by omega)]; exact j1 j hj
      · by_cases q : b = k
        · subst q; exact r _ _ _ _ _ _ _ _ _ _ _ (hw.2.1 b hk) (hw.2.2.1 b hk) hB
        · exact BC_cg (fun j _ _ => by rw [upm_n (by omega), f j (by omega)]) (j2 b (by omega))
    · rintro s hs
      refine ⟨s, fun rec => ?_, hs⟩
      show gX7_copy_p_44_2 rec s (nI 8) = _
      unfold gX7_copy_p_44_2
      simp (disch := omega) only [obs, bd, jn, bn2, un2, bn3, un3, bns, nI_1, nI_clamp, gN, gN0, gN1, gN2, gN3, nI_leI, nI_ltI, nI_eq, li_le, li_lt, le_li, lt_li, eq_li, li_eq, li_mul, mul_li, add_li, nI_add, m_has, c_has, hI_0, bI_0, if_pos]
  refine ⟨upm (upm s 3 (va_cpy (s 46) (s 3) 0 0 12)) 1 (upd (s 1) 2 (s 44 2)), ?_, fun j hj => ?_, CP_if.mpr ⟨?_, fun v hv => ?_, fun b hb' => BC_cg (fun j _ _ => by rw [upm_n (by omega), upm_n (by omega)]) (r b hb')⟩⟩
  · unfold fX7_copy_p_44
    rw [e]
    simp only [obs, bd]
    rw [upm_n (by omega), upm_n (by omega)]
  · rw [upm_n (by omega), upm_n (by omega), f j (by omega)]
  · rw [upm_s, upd_a, if_pos rfl, f 44 (by omega)]; exact c1
  · rw [upm_n (by omega), upm_s]
    unfold va_cpy
    rw [if_pos ⟨Nat.zero_le _, by omega⟩, Nat.zero_add, Nat.sub_zero, f 46 (by omega)]
    exact c2 v hv
theorem m_cp (τ : Mm) (a0 n a1 : Nat) (ha : a0 ≠ a1) (hn : n < 100) : ∃ τ', fX10_copies τ a0 n a1 n = some τ' ∧ Fq [a1] τ τ' ∧ ∀ i, i < n → τ' a1 i = τ a0 i := by
  obtain ⟨s, e, f, r⟩ := z_loop (k := a1) (N := n) (g := fun i => τ a0 i) (s0 := τ) (step := fun rec s => gX10_copies_2 a0 n a1 n rec s.1 s.2) (fun i hi s rec hq => by
    show gX10_copies_2 a0 n a1 n rec s (nI i) = _
    have h0 := hq a0 ha
    unfold gX10_copies_2
    rw [if_neg (show ¬ Int32.ofNat n ≤ nI i from fun r : nI n ≤ nI i => by have := (nI_leI (by omega) (by omega)).mp r; omega)]
    simp (disch := omega) only [obs, bd, jn, bn2, un2, bn3, un3, bns, nI_1, nI_clamp, gN, gN0, gN1, gN2, gN3, nI_leI, nI_ltI, nI_eq, li_le, li_lt, le_li, lt_li, eq_li, li_eq, li_mul, mul_li, add_li, nI_add, m_has, c_has, hI_0, bI_0, h0]) (fun s rec => by
    show gX10_copies_2 a0 n a1 n rec s (nI n) = _
    unfold gX10_copies_2
    rw [if_pos (show Int32.ofNat n ≤ nI n from (nI_leI (a := n) (by omega) (by omega)).mpr (by omega))]) (n := FU) (fu (by omega))
  refine ⟨s, ?_, f, r⟩
  have e' : qX10_copies_2 a0 n a1 n FU (τ, 0) = some s := e
  unfold fX10_copies
  rw [e']
  rfl
