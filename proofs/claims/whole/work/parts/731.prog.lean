/-! a program, and how class and model hold it -/
abbrev Pg : Type := Nat × (Nat → Nat) × (Nat → Nat → Nat) × (Nat → Nat → Nat) × (Nat → Nat → Int32) × (Nat → Nat → Int32) × (Nat → Nat) × (Nat → Nat) × (Nat → Nat) × (Nat → Nat) × (Nat → Nat) × (Nat → Int32)
def P_n (P : Pg) : Nat := P.1
def P_m (P : Pg) : Nat → Nat := P.2.1
def P_k (P : Pg) : Nat → Nat → Nat := P.2.2.1
def P_t (P : Pg) : Nat → Nat → Nat := P.2.2.2.1
def P_a (P : Pg) : Nat → Nat → Int32 := P.2.2.2.2.1
def P_b (P : Pg) : Nat → Nat → Int32 := P.2.2.2.2.2.1
def P_e (P : Pg) : Nat → Nat := P.2.2.2.2.2.2.1
def P_v (P : Pg) : Nat → Nat := P.2.2.2.2.2.2.2.1
def P_f (P : Pg) : Nat → Nat := P.2.2.2.2.2.2.2.2.1
def P_s (P : Pg) : Nat → Nat := P.2.2.2.2.2.2.2.2.2.1
def P_q (P : Pg) : Nat → Nat := P.2.2.2.2.2.2.2.2.2.2.1
def P_i (P : Pg) : Nat → Int32 := P.2.2.2.2.2.2.2.2.2.2.2
def va (P : Pg) (b i : Nat) : Nat := (P_a P b i).toNatClampNeg
def vc (P : Pg) (b i : Nat) : Nat := (P_b P b i).toNatClampNeg
def WP (P : Pg) : Prop := (1 ≤ P_n P ∧ P_n P ≤ 8) ∧ (∀ b, b < 8 → P_m P b ≤ 8) ∧ (∀ b, b < 8 → P_e P b ≤ 2) ∧ (∀ b, b < 8 → P_e P b ≠ 0 → P_v P b < 12) ∧ (∀ b, b < 8 → P_e P b ≠ 2 → P_f P b < P_n P) ∧ (∀ b, b < 8 → P_e P b = 1 → P_s P b < P_n P) ∧ (∀ b, b < 8 → 1 ≤ P_q P b ∧ P_q P b ≤ 9999) ∧ (∀ b, b < 8 → ∀ i, i < P_m P b → P_k P b i ≤ 4) ∧ (∀ b, b < 8 → ∀ i, i < P_m P b → P_t P b i < 12) ∧ (∀ b, b < 8 → ∀ i, i < P_m P b → P_k P b i ≠ 0 → P_a P b i = nI (va P b i) ∧ va P b i < 12) ∧ (∀ b, b < 8 → ∀ i, i < P_m P b → 2 ≤ P_k P b i → P_b P b i = nI (vc P b i) ∧ vc P b i < 12)
def CP (σ : Mm) (kp kb : Nat) (P : Pg) : Prop := σ kp 2 = nI (P_n P) ∧ (∀ v, v < 12 → σ (kp + 2) v = P_i P v) ∧ (∀ b, b < 8 → σ (kb + 5 * b) 4 = nI (P_m P b)) ∧ (∀ b, b < 8 → σ (kb + 5 * b) 5 = nI (P_e P b)) ∧ (∀ b, b < 8 → σ (kb + 5 * b) 6 = if P_e P b = 0 then -1 else nI (P_v P b)) ∧ (∀ b, b < 8 → σ (kb + 5 * b) 7 = if P_e P b = 2 then -1 else nI (P_f P b)) ∧ (∀ b, b < 8 → σ (kb + 5 * b) 8 = if P_e P b = 1 then nI (P_s P b) else -1) ∧ (∀ b, b < 8 → σ (kb + 5 * b) 9 = nI (P_q P b)) ∧ (∀ b, b < 8 → ∀ i, i < P_m P b → σ (kb + 5 * b + 1) i = nI (P_k P b i)) ∧ (∀ b, b < 8 → ∀ i, i < P_m P b → σ (kb + 5 * b + 2) i = nI (P_t P b i)) ∧ (∀ b, b < 8 → ∀ i, i < P_m P b → σ (kb + 5 * b + 3) i = P_a P b i) ∧ (∀ b, b < 8 → ∀ i, i < P_m P b → σ (kb + 5 * b + 4) i = P_b P b i)
def MP (σ : Mm) (d f : Nat) (P : Pg) : Prop := σ 123 f = nI (P_n P) ∧ (∀ v, v < 12 → σ (d + 10) v = P_i P v) ∧ (∀ b, b < 8 → σ d b = nI (P_m P b)) ∧ (∀ b, b < 8 → σ (d + 1) b = nI (P_e P b)) ∧ (∀ b, b < 8 → P_e P b ≠ 0 → σ (d + 2) b = nI (P_v P b)) ∧ (∀ b, b < 8 → P_e P b ≠ 2 → σ (d + 3) b = nI (P_f P b)) ∧ (∀ b, b < 8 → P_e P b = 1 → σ (d + 4) b = nI (P_s P b)) ∧ (∀ b, b < 8 → σ (d + 5) b = nI (P_q P b)) ∧ (∀ b, b < 8 → ∀ i, i < P_m P b → σ (d + 6) (8 * b + i) = nI (P_k P b i)) ∧ (∀ b, b < 8 → ∀ i, i < P_m P b → σ (d + 7) (8 * b + i) = nI (P_t P b i)) ∧ (∀ b, b < 8 → ∀ i, i < P_m P b → σ (d + 8) (8 * b + i) = P_a P b i) ∧ (∀ b, b < 8 → ∀ i, i < P_m P b → σ (d + 9) (8 * b + i) = P_b P b i)
def us (P : Pg) (b i : Nat) : Int32 := if P_k P b i = 0 then 0 else if P_k P b i = 1 then b1 (va P b i) else b1 (va P b i) ||| b1 (vc P b i)
def eu (P : Pg) (b : Nat) : Int32 := if P_e P b = 0 then 0 else b1 (P_v P b)
def sc (P : Pg) (b : Nat) : Int32 := if P_e P b = 2 then 0 else if P_e P b = 0 then b1 (P_f P b) else b1 (P_f P b) ||| b1 (P_s P b)
def gt (P : Pg) (b t : Nat) : Bool := (decide (P_e P b ≠ 2) && decide (P_f P b = t)) || (decide (P_e P b = 1) && decide (P_s P b = t))
def bI (x : Bool) : Int32 := if x then 1 else 0
theorem bI_0 {x : Bool} : bI x = 0 ↔ x = false := by cases x <;> decide
theorem bI_1 {x : Bool} : bI x = 1 ↔ x = true := by cases x <;> decide
/-! the model's small readers -/
theorem m_usesOf {σ : Mm} {P : Pg} (hw : WP P) (hm : MP σ 124 1 P) {b i : Nat} (hb : b < 8) (hi : i < P_m P b) : fX10_usesOf σ (nI (8 * b + i)) = some (us P b i) := by
  obtain ⟨-, w1, -, -, -, -, -, w2, -, w3, w4⟩ := hw
  obtain ⟨-, -, -, -, -, -, -, -, m9, m10, m11, m12⟩ := hm
  have h8 := w1 b hb
  have hk := w2 b hb i hi
  unfold fX10_usesOf us
  simp (disch := omega) only [gN, nI_clamp, m9, m11, m12, eq_li, lt_li]
  by_cases h0 : P_k P b i = 0
  · simp [h0]
  · obtain ⟨e1, l1⟩ := w3 b hb i hi h0
    simp only [h0, if_false]
    by_cases h1 : P_k P b i = 1
    · simp [h1, b1, e1]
    · obtain ⟨e2, l2⟩ := w4 b hb i hi (by omega)
      have h3 : ¬ P_k P b i < 2 := by omega
      simp only [h3, h1, if_false, b1, ← e1, ← e2]
theorem m_endUse {σ : Mm} {P : Pg} (hm : MP σ 124 1 P) {b : Nat} (hw : WP P) (hb : b < 8) : fX10_endUse σ (nI b) = some (eu P b) := by
  obtain ⟨-, -, -, m4, m5, -⟩ := hm
  have h2 := hw.2.2.1 b hb
  unfold fX10_endUse eu
  simp (disch := omega) only [gN, nI_clamp, m4, eq_li]
  by_cases h0 : P_e P b = 0
  · simp [h0]
  · have e := m5 b hb h0
    simp only [h0, if_false, b1, ← e]
theorem m_goesTo {σ : Mm} {P : Pg} (hw : WP P) (hm : MP σ 124 1 P) {b t : Nat} (hb : b < 8) (ht : t < 8) : fX10_goesTo σ (nI b) (nI t) = some (bI (gt P b t)) := by
  obtain ⟨-, -, -, m4, -, m6, m7, -⟩ := hm
  obtain ⟨w0, -, w1, -, w2, w3, -⟩ := hw
  have h2 := w1 b hb
  unfold fX10_goesTo gt jn
  simp (disch := omega) only [gN, nI_clamp, m4, eq_li]
  by_cases h0 : P_e P b = 2
  · simp [h0, bI]
  · have e := m6 b hb h0
    have l1 := w2 b hb h0
    simp (disch := omega) only [h0, if_false, e, nI_eq]
    by_cases h3 : P_f P b = t
    · simp [h0, h3, bI]
    · by_cases h1 : P_e P b = 1
      · have e2 := m7 b hb h1
        have l2 := w3 b hb h1
        simp (disch := omega) only [h1, if_true, e2, nI_eq, h3, if_false]
        by_cases h4 : P_s P b = t <;> simp [h4, bI]
      · simp [h1, h3, bI]
theorem m_has {σ : Mm} {x : Int32} {k : Nat} (hk : k < 32) : fX10_has σ x (nI k) = some (hI x k) := by
  unfold fX10_has
  rw [bit_of hk]
  unfold hI
  cases hb x k <;> simp
theorem c_has {σ : Mm} {x : Int32} {k : Nat} (hk : k < 32) : fX9_has σ x (nI k) = some (hI x k) := by
  unfold fX9_has
  rw [bit_of hk]
  unfold hI
  cases hb x k <;> simp
theorem c_successors {σ : Mm} {P : Pg} (hw : WP P) (hc : CP σ 1 4 P) {b : Nat} (hb : b < 8) : fX0_successors σ (4 + 5 * b) = some (sc P b) := by
  obtain ⟨-, -, -, c4, -, c6, c7, -⟩ := hc
  have h2 := hw.2.2.1 b hb
  unfold fX0_successors sc
  simp (disch := omega) only [c4, c6, c7, eq_li]
  by_cases h0 : P_e P b = 2
  · simp [h0]
  · by_cases h1 : P_e P b = 0
    · simp [h1, b1]
    · have h3 : P_e P b = 1 := by omega
      simp [h3, b1]
theorem c_usedByEnd {σ : Mm} {P : Pg} (hw : WP P) (hc : CP σ 1 4 P) {b : Nat} (hb : b < 8) : fX0_usedByEnd σ (4 + 5 * b) = some (eu P b) := by
  obtain ⟨-, -, -, c4, c5, -⟩ := hc
  have h2 := hw.2.2.1 b hb
  unfold fX0_usedByEnd eu
  simp (disch := omega) only [c4, c5, eq_li]
  by_cases h0 : P_e P b = 0 <;> simp [h0, b1]
theorem c_usedBy {σ : Mm} {P : Pg} (hw : WP P) (hc : CP σ 1 4 P) {b i : Nat} (hb : b < 8) (hi : i < P_m P b) : fX0_usedBy σ (4 + 5 * b) (nI i) = some (us P b i) := by
  obtain ⟨-, w1, -, -, -, -, -, w2, -, w3, w4⟩ := hw
  obtain ⟨-, -, -, -, -, -, -, -, c9, c10, c11, c12⟩ := hc
  have h8 := w1 b hb
  have hk := w2 b hb i hi
  unfold fX0_usedBy us bd
  simp (disch := omega) only [gN, nI_clamp, c9, c11, c12, eq_li]
  by_cases h0 : P_k P b i = 0
  · simp [h0]
  · obtain ⟨e1, l1⟩ := w3 b hb i hi h0
    simp only [h0, if_false]
    by_cases h1 : P_k P b i = 1
    · simp [h1, b1, ← e1]
    · obtain ⟨e2, l2⟩ := w4 b hb i hi (by omega)
      simp only [h1, if_false, b1, ← e1, ← e2]
