/-! the machine without a plan -/
def FrM (τ0 τ : Mm) : Prop := Fq [123, 146, 147, 148, 150, 152, 153] τ0 τ ∧ ∀ i, i ≠ 38 → i ≠ 39 → i ≠ 41 → τ 123 i = τ0 123 i
theorem FrM_rf {τ : Mm} : FrM τ τ := ⟨Fq_rf, fun _ _ _ _ => rfl⟩
theorem FrM.up {τ0 τ : Mm} {k : Nat} {f : Nat → Int32} (h : FrM τ0 τ) (hk : k ∈ [146, 147, 148, 150, 152, 153]) : FrM τ0 (upm τ k f) := ⟨h.1.up (List.mem_cons_of_mem _ hk), fun i a b c => by
  rw [upm_n (fun e => by subst e; simp at hk)]
  exact h.2 i a b c⟩
theorem FrM.u3 {τ0 τ : Mm} {i : Nat} {x : Int32} (h : FrM τ0 τ) (hi : i = 38 ∨ i = 39 ∨ i = 41) : FrM τ0 (upm τ 123 (upd (τ 123) i x)) := ⟨h.1.up (by simp), fun j a b c => by
  rw [upm_s, upd_a, if_neg (by omega)]
  exact h.2 j a b c⟩
theorem FrM_cl {τ0 τ τ' : Mm} (h : FrM τ0 τ) (h1 : ∀ j, j ≠ 152 → j ≠ 150 → τ' j = τ j) : FrM τ0 τ' := ⟨fun j hj => by
  have q : j ≠ 152 ∧ j ≠ 150 := ⟨fun e => by subst e; simp at hj, fun e => by subst e; simp at hj⟩
  rw [h1 j q.1 q.2]
  exact h.1 j hj, fun i a b c => by rw [h1 123 (by omega) (by omega)]; exact h.2 i a b c⟩
theorem FrM_MP {τ0 τ : Mm} {P : Pg} (h : FrM τ0 τ) (hm : MP τ0 124 1 P) : MP τ 124 1 P := MP_fq h.1 (by simp) (h.2 1 (by omega) (by omega) (by omega)) hm
theorem rst_a {σ : Mm} {j : Nat} (h1 : j ≠ 123) (h2 : j ≠ 153) : rst σ j = σ j := by
  unfold rst
  rw [upm_n h1, upm_n h2, upm_n h2]
theorem rst_3 {σ : Mm} {i : Nat} (h : i ≠ 38) : rst σ 123 i = σ 123 i := by
  unfold rst
  rw [upm_s, upd_a, if_neg h]
theorem rst_38 {σ : Mm} : rst σ 123 38 = 0 := by
  unfold rst
  rw [upm_s, upd_a, if_pos rfl]
theorem rst_s {σ : Mm} {j : Nat} (hj : j < 2) : rst σ 153 j = -1 := by
  unfold rst
  rw [upm_n (by omega), upm_s, upd_a, upd_a]
  by_cases c : j = 1
  · rw [if_pos c]
  · rw [if_neg c, if_pos (by omega)]
theorem FrM_rst {τ0 τ : Mm} (h : FrM τ0 τ) : FrM τ0 (rst τ) := by
  have h1 : FrM τ0 (upm τ 153 (upd (τ 153) 0 (-1))) := h.up (by simp)
  have h2 : FrM τ0 (upm (upm τ 153 (upd (τ 153) 0 (-1))) 153 (upd (upd (τ 153) 0 (-1)) 1 (-1))) := h1.up (by simp)
  have h3 := h2.u3 (i := 38) (x := 0) (Or.inl rfl)
  rw [upm_n (show (123 : Nat) ≠ 153 by omega), upm_n (show (123 : Nat) ≠ 153 by omega)] at h3
  exact h3
def vop (k : Nat) (x y : Int32) : Int32 := if k = 2 then x + y else if k = 3 then x - y else x * y
def vlp (P : Pg) (b i : Nat) (g : Nat → Int32) : Int32 := if P_k P b i = 0 then P_a P b i else if P_k P b i = 1 then g (va P b i) else vop (P_k P b i) (g (va P b i)) (g (vc P b i))
theorem c_valq {σ : Mm} {P : Pg} (hw : WP P) (hc : CP σ 1 4 P) {b i : Nat} (hb' : b < 8) (hi : i < P_m P b) : fX3_valueOf_q σ (4 + 5 * b) (nI i) = some (vlp P b i (σ 106)) := by
  obtain ⟨-, w1, -, -, -, -, -, w2, -, w3, w4⟩ := hw
  obtain ⟨-, -, -, -, -, -, -, -, c9, c10, c11, c12⟩ := hc
  have h8 := w1 b hb'
  have hk := w2 b hb' i hi
  have e9 := c9 b hb' i hi
  have e11 := c11 b hb' i hi
  have e12 := c12 b hb' i hi
  unfold fX3_valueOf_q vlp fX4_fetch
  simp (disch := omega) only [obs, bd, jn, bn2, un2, bn3, un3, bns, nI_1, nI_clamp, gN, gN0, gN1, gN2, gN3, nI_leI, nI_ltI, nI_eq, li_le, li_lt, le_li, lt_li, eq_li, li_eq, li_mul, mul_li, add_li, nI_add, m_has, c_has, hI_0, bI_0, e9, e11, e12]
  by_cases h0 : P_k P b i = 0
  · rw [if_pos h0, if_pos h0]
  · obtain ⟨e1, l1⟩ := w3 b hb' i hi h0
    rw [if_neg h0, if_neg h0, e1]
    simp (disch := omega) only [obs, bd, jn, bn2, un2, bn3, un3, bns, nI_1, nI_clamp, gN, gN0, gN1, gN2, gN3, nI_leI, nI_ltI, nI_eq, li_le, li_lt, le_li, lt_li, eq_li, li_eq, li_mul, mul_li, add_li, nI_add, m_has, c_has, hI_0, bI_0]
    by_cases h1 : P_k P b i = 1
    · rw [if_pos h1, if_pos h1]
    · obtain ⟨e2, l2⟩ := w4 b hb' i hi (by omega)
      rw [if_neg h1, if_neg h1, e2]
      simp (disch := omega) only [obs, bd, jn, bn2, un2, bn3, un3, bns, nI_1, nI_clamp, gN, gN0, gN1, gN2, gN3, nI_leI, nI_ltI, nI_eq, li_le, li_lt, le_li, lt_li, eq_li, li_eq, li_mul, mul_li, add_li, nI_add, m_has, c_has, hI_0, bI_0]
      unfold vop
      by_cases q : vc P b i = va P b i
      · rw [if_pos q, q]
        by_cases h2 : P_k P b i = 2
        · rw [if_pos h2, if_pos h2]
        · rw [if_neg h2, if_neg h2]
          by_cases h3 : P_k P b i = 3
          · rw [if_pos h3, if_pos h3]
          · rw [if_neg h3, if_neg h3]
      · rw [if_neg q]
        by_cases h2 : P_k P b i = 2
        · rw [if_pos h2, if_pos h2]
        · rw [if_neg h2, if_neg h2]
          by_cases h3 : P_k P b i = 3
          · rw [if_pos h3, if_pos h3]
          · rw [if_neg h3, if_neg h3]
theorem m_got0 {σ : Mm} {v : Nat} (h : σ 123 40 = 0) (hv : v < 12) : fX10_got σ (nI v) = some (σ 146 v, σ) := by
  unfold fX10_got
  rw [if_pos h]
  simp (disch := omega) only [obs, bd, jn, bn2, un2, bn3, un3, bns, nI_1, nI_clamp, gN, gN0, gN1, gN2, gN3, nI_leI, nI_ltI, nI_eq, li_le, li_lt, le_li, lt_li, eq_li, li_eq, li_mul, mul_li, add_li, nI_add, m_has, c_has, hI_0, bI_0]
theorem m_puts0 {σ : Mm} {v : Nat} {x : Int32} (h : σ 123 40 = 0) (hv : v < 12) : fX10_puts σ (nI v) x = some (upm σ 146 (upd (σ 146) v x)) := by
  unfold fX10_puts
  simp (disch := omega) only [obs, bd, jn, bn2, un2, bn3, un3, bns, nI_1, nI_clamp, gN, gN0, gN1, gN2, gN3, nI_leI, nI_ltI, nI_eq, li_le, li_lt, le_li, lt_li, eq_li, li_eq, li_mul, mul_li, add_li, nI_add, m_has, c_has, hI_0, bI_0]
  rw [upm_n (show (123 : Nat) ≠ 146 by omega), if_pos h]
theorem m_does0 {σ : Mm} {P : Pg} (hw : WP P) (hm : MP σ 124 1 P) (h : σ 123 40 = 0) {b i : Nat} (hb' : b < 8) (hi : i < P_m P b) : fX10_does σ (nI (8 * b + i)) = some (upm σ 146 (upd (σ 146) (P_t P b i) (vlp P b i (σ 146)))) := by
  obtain ⟨-, w1, -, -, -, -, -, w2, w9, w3, w4⟩ := hw
  obtain ⟨-, -, -, -, -, -, -, -, m9, m10, m11, m12⟩ := hm
  have h8 := w1 b hb'
  have hk := w2 b hb' i hi
  have e9 := m9 b hb' i hi
  have e10 := m10 b hb' i hi
  have e11 := m11 b hb' i hi
  have e12 := m12 b hb' i hi
  have ht := w9 b hb' i hi
  unfold fX10_does vlp
  simp (disch := omega) only [obs, bd, jn, bn2, un2, bn3, un3, bns, nI_1, nI_clamp, gN, gN0, gN1, gN2, gN3, nI_leI, nI_ltI, nI_eq, li_le, li_lt, le_li, lt_li, eq_li, li_eq, li_mul, mul_li, add_li, nI_add, m_has, c_has, hI_0, bI_0, e9, e10, e11, e12, m_puts0 h ht]
  by_cases h0 : P_k P b i = 0
  · rw [if_pos h0, if_pos h0]
  · obtain ⟨e1, l1⟩ := w3 b hb' i hi h0
    rw [if_neg h0, if_neg h0, e1, m_got0 h l1]
    simp (disch := omega) only [obs, bd, jn, bn2, un2, bn3, un3, bns, nI_1, nI_clamp, gN, gN0, gN1, gN2, gN3, nI_leI, nI_ltI, nI_eq, li_le, li_lt, le_li, lt_li, eq_li, li_eq, li_mul, mul_li, add_li, nI_add, m_has, c_has, hI_0, bI_0, e9, e10, e11, e12, m_puts0 h ht]
    by_cases h1 : P_k P b i = 1
    · rw [if_neg (by omega), if_pos h1, if_pos h1]
    · obtain ⟨e2, l2⟩ := w4 b hb' i hi (by omega)
      rw [if_pos (by omega), if_neg h1, if_neg h1, e2, e1, m_got0 h l2]
      simp (disch := omega) only [obs, bd, jn, bn2, un2, bn3, un3, bns, nI_1, nI_clamp, gN, gN0, gN1, gN2, gN3, nI_leI, nI_ltI, nI_eq, li_le, li_lt, le_li, lt_li, eq_li, li_eq, li_mul, mul_li, add_li, nI_add, m_has, c_has, hI_0, bI_0, e9, e10, e11, e12, m_puts0 h ht]
      unfold vop
      by_cases q : vc P b i = va P b i
      · rw [if_pos q, q]
        by_cases h2 : P_k P b i = 2
        · rw [if_pos h2, if_pos h2]
        · rw [if_neg h2, if_neg h2]
          by_cases h3 : P_k P b i = 3
          · rw [if_pos h3, if_pos h3]
          · rw [if_neg h3, if_neg h3]
      · rw [if_neg q, if_neg h1]
        by_cases h2 : P_k P b i = 2
        · rw [if_pos h2, if_pos h2]
        · rw [if_neg h2, if_neg h2]
          by_cases h3 : P_k P b i = 3
          · rw [if_pos h3, if_pos h3]
          · rw [if_neg h3, if_neg h3]
