/-! how often: uses, settings, constants -/
def sm (f : Nat → Nat) : Nat → Nat
  | 0 => 0
  | k + 1 => sm f k + f k
theorem sm_cg {f g : Nat → Nat} {n : Nat} (h : ∀ k, k < n → f k = g k) : sm f n = sm g n := by
  induction n with
  | zero => rfl
  | succ n ih => simp only [sm]; rw [ih (fun k hk => h k (by omega)), h n (by omega)]
theorem sm_le {f : Nat → Nat} {B n : Nat} (h : ∀ k, k < n → f k ≤ B) : sm f n ≤ n * B := by
  induction n with
  | zero => simp [sm]
  | succ n ih =>
    simp only [sm]
    have h1 := ih (fun k hk => h k (by omega))
    have h2 := h n (by omega)
    rw [Nat.succ_mul]
    omega
theorem sm_add {f g : Nat → Nat} {n : Nat} : sm (fun k => f k + g k) n = sm f n + sm g n := by
  induction n with
  | zero => rfl
  | succ n ih => simp only [sm]; rw [ih]; omega
theorem sm_0 {f : Nat → Nat} {n : Nat} : sm f n = 0 ↔ ∀ k, k < n → f k = 0 := by
  constructor
  · intro h
    induction n with
    | zero => intro k hk; omega
    | succ n ih =>
      simp only [sm] at h
      intro k hk
      rcases Nat.lt_or_ge k n with c | c
      · exact ih (by omega) k c
      · have : k = n := by omega
        subst this; omega
  · intro h
    induction n with
    | zero => rfl
    | succ n ih => simp only [sm]; rw [ih (fun k hk => h k (by omega)), h n (by omega)]
theorem sm_up {f : Nat → Nat} {i : Nat} : ∀ j, i ≤ j → sm f i ≤ sm f j := by
  intro j
  induction j with
  | zero => intro h; have : i = 0 := by omega
            subst this; exact Nat.le_refl _
  | succ j ih =>
    intro h
    rcases Nat.lt_or_ge i (j + 1) with c | c
    · exact Nat.le_trans (ih (by omega)) (by simp only [sm]; omega)
    · have : i = j + 1 := by omega
      subst this; exact Nat.le_refl _
def nUi (P : Pg) (b v i : Nat) : Nat := cnt (fun j => hb (us P b j) v) i
def nU (P : Pg) (b v : Nat) : Nat := nUi P b v (P_m P b) + (if hb (eu P b) v = true then 1 else 0)
def nDi (P : Pg) (b v i : Nat) : Nat := cnt (fun j => decide (P_t P b j = v)) i
def nD (P : Pg) (b v : Nat) : Nat := nDi P b v (P_m P b)
def nCi (P : Pg) (b v i : Nat) : Nat := cnt (fun j => decide (P_t P b j = v) && decide (P_k P b j = 0)) i
def nC (P : Pg) (b v : Nat) : Nat := nCi P b v (P_m P b)
theorem nU_le {P : Pg} (hw : WP P) {b v : Nat} (hb' : b < 8) : nU P b v ≤ 9 := by
  have h8 := hw.2.1 b hb'
  have h1 : nUi P b v (P_m P b) ≤ P_m P b := cnt_le
  unfold nU
  split <;> omega
theorem nD_le {P : Pg} (hw : WP P) {b v : Nat} (hb' : b < 8) : nD P b v ≤ 8 := by
  have h8 := hw.2.1 b hb'
  have h1 : nDi P b v (P_m P b) ≤ P_m P b := cnt_le
  unfold nD
  omega
def cs1 (F : Nat → Int32) (b : Nat) (s : Int32) (k : Nat) : Nat → Int32 := fun x => if b * 12 ≤ x ∧ x < b * 12 + k ∧ hb s (x - b * 12) = true then F x + 1 else F x
theorem c_countSet {σ : Mm} {b : Nat} {s : Int32} (hb' : b < 8) : fX1_countSet σ (nI b) s = some (upm σ 89 (cs1 (σ 89) b s 12)) := by
  have e : qX1_countSet_2 (nI b) s FU (σ, 0) = some (upm σ 89 (cs1 (σ 89) b s 12)) := by
    refine lp_fr (fun k => (upm σ 89 (cs1 (σ 89) b s k), nI k)) 12 ?_ ?_ ?_ (fu (by omega))
    · have : cs1 (σ 89) b s 0 = σ 89 := funext fun x => if_neg (by omega)
      rw [this, upm_id]; rfl
    · intro k hk rec
      show gX1_countSet_2 (nI b) s rec (upm σ 89 (cs1 (σ 89) b s k)) (nI k) = rec (upm σ 89 (cs1 (σ 89) b s (k + 1)), nI (k + 1))
      have e1 : b * 12 + k - b * 12 = k := by omega
      unfold gX1_countSet_2
      simp (disch := omega) only [obs, bd, jn, bn2, un2, bn3, un3, bns, nI_1, nI_clamp, gN, gN0, gN1, gN2, gN3, nI_leI, nI_ltI, nI_eq, li_le, li_lt, le_li, lt_li, eq_li, li_eq, li_mul, mul_li, add_li, nI_add, m_has, c_has, hI_0, bI_0, if_neg, upm_s, upm_u]
      cases c : hb s k
      · simp only [if_true]
        congr 3
        funext x
        unfold cs1
        by_cases h : x = b * 12 + k
        · subst h
          rw [if_neg (by omega), e1, c, if_neg (by simp)]
        · have : (b * 12 ≤ x ∧ x < b * 12 + k ∧ hb s (x - b * 12) = true) ↔ (b * 12 ≤ x ∧ x < b * 12 + (k + 1) ∧ hb s (x - b * 12) = true) := ⟨fun q => ⟨q.1, by omega, q.2.2⟩, fun q => ⟨q.1, by omega, q.2.2⟩⟩
          by_cases q : b * 12 ≤ x ∧ x < b * 12 + k ∧ hb s (x - b * 12) = true
          · rw [if_pos q, if_pos (this.mp q)]
          · rw [if_neg q, if_neg (fun r => q (this.mpr r))]
      · simp only [Bool.true_eq_false, if_false]
        congr 3
        funext x
        rw [upd_a]
        unfold cs1
        by_cases h : x = b * 12 + k
        · subst h
          rw [if_pos rfl, if_neg (by omega), e1, c, if_pos (by simp)]
        · have : (b * 12 ≤ x ∧ x < b * 12 + k ∧ hb s (x - b * 12) = true) ↔ (b * 12 ≤ x ∧ x < b * 12 + (k + 1) ∧ hb s (x - b * 12) = true) := ⟨fun q => ⟨q.1, by omega, q.2.2⟩, fun q => ⟨q.1, by omega, q.2.2⟩⟩
          rw [if_neg h]
          by_cases q : b * 12 ≤ x ∧ x < b * 12 + k ∧ hb s (x - b * 12) = true
          · rw [if_pos q, if_pos (this.mp q)]
          · rw [if_neg q, if_neg (fun r => q (this.mpr r))]
    · intro rec
      show gX1_countSet_2 (nI b) s rec (upm σ 89 (cs1 (σ 89) b s 12)) (nI 12) = _
      unfold gX1_countSet_2
      simp (disch := omega) only [obs, bd, jn, bn2, un2, bn3, un3, bns, nI_1, nI_clamp, gN, gN0, gN1, gN2, gN3, nI_leI, nI_ltI, nI_eq, li_le, li_lt, le_li, lt_li, eq_li, li_eq, li_mul, mul_li, add_li, nI_add, m_has, c_has, hI_0, bI_0, if_pos]
  unfold fX1_countSet
  rw [e]
  rfl
theorem cs1_at {F : Nat → Int32} {b c v : Nat} {s : Int32} (hv : v < 12) : cs1 F b s 12 (c * 12 + v) = if c = b ∧ hb s v = true then F (c * 12 + v) + 1 else F (c * 12 + v) := by
  unfold cs1
  by_cases h : c = b
  · subst h
    rw [show c * 12 + v - c * 12 = v by omega]
    by_cases q : hb s v = true
    · rw [if_pos ⟨by omega, by omega, q⟩, if_pos ⟨rfl, q⟩]
    · rw [if_neg (fun r => q r.2.2), if_neg (fun r => q r.2)]
  · rw [if_neg (by omega), if_neg (fun r => h r.1)]
/-- what is counted before row i of block b -/
def Cu (P : Pg) (b i : Nat) (s : Mm) : Prop := (∀ c v, c < 8 → v < 12 → s 89 (c * 12 + v) = nI (if c < b then nU P c v else if c = b then nUi P b v i else 0)) ∧ (∀ c v, c < 8 → v < 12 → s 90 (c * 12 + v) = nI (if c < b then nD P c v else if c = b then nDi P b v i else 0)) ∧ (∀ v, v < 12 → s 92 v = nI (sm (fun c => nC P c v) b + nCi P b v i)) ∧ ∀ v, v < 12 → sm (fun c => nC P c v) b + nCi P b v i ≠ 0 → ∃ c j, (c < b ∨ (c = b ∧ j < i)) ∧ j < P_m P c ∧ P_t P c j = v ∧ P_k P c j = 0 ∧ s 93 v = P_a P c j
theorem Cu_row {s : Mm} {P : Pg} (hw : WP P) {b i : Nat} (hb' : b < P_n P) (hi : i < P_m P b) (hc : CP s 1 4 P) (h : Cu P b i s) : ∃ s', (∀ rec, gX1_countUses_49 (nI b) (4 + 5 * b) rec s (nI i) = rec (s', nI (i + 1))) ∧ Fq [89, 90, 92, 93] s s' ∧ Cu P b (i + 1) s' := by
  have hn := hw.1.2
  have h8 := hw.2.1 b (by omega)
  have ht := hw.2.2.2.2.2.2.2.2.1 b (by omega) i hi
  have hk4 := hw.2.2.2.2.2.2.2.1 b (by omega) i hi
  have c3 := hc.2.2.1 b (by omega)
  have c9 := hc.2.2.2.2.2.2.2.2.1 b (by omega) i hi
  have c10 := hc.2.2.2.2.2.2.2.2.2.1 b (by omega) i hi
  have c11 := hc.2.2.2.2.2.2.2.2.2.2.1 b (by omega) i hi
  obtain ⟨u1, u2, u3, u4⟩ := h
  have e0 : ∀ rec, gX1_countUses_49 (nI b) (4 + 5 * b) rec s (nI i) = if P_k P b i = 0 then rec (upm (upm (upm (upm s 89 (cs1 (s 89) b (us P b i) 12)) 90 (upd (s 90) (b * 12 + P_t P b i) (s 90 (b * 12 + P_t P b i) + 1))) 92 (upd (s 92) (P_t P b i) (s 92 (P_t P b i) + 1))) 93 (upd (s 93) (P_t P b i) (P_a P b i)), nI (i + 1)) else rec (upm (upm s 89 (cs1 (s 89) b (us P b i) 12)) 90 (upd (s 90) (b * 12 + P_t P b i) (s 90 (b * 12 + P_t P b i) + 1)), nI (i + 1)) := by
    intro rec
    unfold gX1_countUses_49
    simp (disch := omega) only [obs, bd, jn, bn2, un2, bn3, un3, bns, nI_1, nI_clamp, gN, gN0, gN1, gN2, gN3, nI_leI, nI_ltI, nI_eq, li_le, li_lt, le_li, lt_li, eq_li, li_eq, li_mul, mul_li, add_li, nI_add, m_has, c_has, hI_0, bI_0, c3, c10, c_usedBy hw hc, c_countSet, if_neg, upm_s, upm_n, ne_eq, c9, c11]
  have eU : ∀ c v, c < 8 → v < 12 → cs1 (s 89) b (us P b i) 12 (c * 12 + v) = nI (if c < b then nU P c v else if c = b then nUi P b v (i + 1) else 0) := by
    intro c v hc' hv
    rw [cs1_at hv, u1 c v hc' hv]
    by_cases q : c = b
    · subst q
      simp only [Nat.lt_irrefl, if_false, if_true, true_and]
      have : nUi P c v (i + 1) = nUi P c v i + (if hb (us P c i) v = true then 1 else 0) := rfl
      rw [this]
      cases hb (us P c i) v
      · simp
      · simp only [if_true]; exact nI_add _ _
    · rw [if_neg (fun r => q r.1)]
      simp only [q, if_false]
  have eD : ∀ c v, c < 8 → v < 12 → upd (s 90) (b * 12 + P_t P b i) (s 90 (b * 12 + P_t P b i) + 1) (c * 12 + v) = nI (if c < b then nD P c v else if c = b then nDi P b v (i + 1) else 0) := by
    intro c v hc' hv
    rw [upd_a]
    have : nDi P b v (i + 1) = nDi P b v i + (if decide (P_t P b i = v) = true then 1 else 0) := rfl
    by_cases q : c = b
    · subst q
      by_cases q2 : P_t P c i = v
      · subst q2
        rw [if_pos rfl, u2 c _ hc' hv, this]
        simp only [Nat.lt_irrefl, if_false, if_true, decide_true]
        exact nI_add _ _
      · rw [if_neg (by omega), u2 c v hc' hv, this]
        simp only [Nat.lt_irrefl, if_false, if_true, q2, decide_false]
        rfl
    · rw [if_neg (by omega), u2 c v hc' hv]
      simp only [q, if_false]
  have eC : ∀ v, nCi P b v (i + 1) = nCi P b v i + (if (decide (P_t P b i = v) && decide (P_k P b i = 0)) = true then 1 else 0) := fun v => rfl
  by_cases c0 : P_k P b i = 0
  · refine ⟨_, fun rec => (e0 rec).trans (if_pos c0), ((((Fq_rf.up (by simp)).up (by simp)).up (by simp)).up (by simp)), ?_, ?_, ?_, ?_⟩
    · intro c v hc' hv
      rw [upm_n (by omega), upm_n (by omega), upm_n (by omega), upm_s]
      exact eU c v hc' hv
    · intro c v hc' hv
      rw [upm_n (by omega), upm_n (by omega), upm_s]
      exact eD c v hc' hv
    · intro v hv
      rw [upm_n (by omega), upm_s, upd_a, eC]
      by_cases q : P_t P b i = v
      · subst q
        rw [if_pos rfl, u3 _ hv]
        simp only [decide_true, c0, Bool.and_self, if_true]
        exact nI_add _ _
      · rw [if_neg (fun e => q e.symm), u3 v hv]
        simp [q]
    · intro v hv hne
      rw [upm_s, upd_a]
      by_cases q : P_t P b i = v
      · subst q
        exact ⟨b, i, Or.inr ⟨rfl, by omega⟩, hi, rfl, c0, if_pos rfl⟩
      · rw [if_neg (fun e => q e.symm)]
        rw [eC] at hne
        simp only [q, decide_false, Bool.false_and] at hne
        obtain ⟨c, j, g1, g2, g3, g4, g5⟩ := u4 v hv hne
        exact ⟨c, j, by omega, g2, g3, g4, g5⟩
  · refine ⟨_, fun rec => (e0 rec).trans (if_neg c0), ((Fq_rf.up (by simp)).up (by simp)), ?_, ?_, ?_, ?_⟩
    · intro c v hc' hv
      rw [upm_n (by omega), upm_s]
      exact eU c v hc' hv
    · intro c v hc' hv
      rw [upm_s]
      exact eD c v hc' hv
    · intro v hv
      rw [upm_n (by omega), upm_n (by omega), eC, u3 v hv]
      simp [c0]
    · intro v hv hne
      rw [upm_n (by omega), upm_n (by omega)]
      rw [eC] at hne
      simp only [c0, decide_false, Bool.and_false] at hne
      obtain ⟨c, j, g1, g2, g3, g4, g5⟩ := u4 v hv hne
      exact ⟨c, j, by omega, g2, g3, g4, g5⟩
theorem c_countUses {σ : Mm} {P : Pg} (hw : WP P) (hc : CP σ 1 4 P) : ∃ σ', fX1_countUses σ = some σ' ∧ Fq [89, 90, 92, 93] σ σ' ∧ Cu P (P_n P) 0 σ' := by
  have hn := hw.1.2
  unfold fX1_countUses
  rw [c_fill (by omega)]
  simp only [obs]
  rw [c_fill (by omega)]
  simp only [obs]
  rw [c_fill (by omega)]
  simp only [obs]
  generalize hs0 : upm (upm (upm σ 89 _) 90 _) 92 _ = s0
  have hF0 : Fq [89, 90, 92, 93] σ s0 := hs0 ▸ ((Fq_rf.up (by simp)).up (by simp)).up (by simp)
  have hC0 : Cu P 0 0 s0 := by
    subst hs0
    refine ⟨?_, ?_, ?_, ?_⟩
    · intro c v hc' hv
      rw [upm_n (by omega), upm_n (by omega), upm_s, if_pos (by omega)]
      have : nUi P 0 v 0 = 0 := rfl
      simp only [Nat.not_lt_zero, if_false, this, ite_self]; rfl
    · intro c v hc' hv
      rw [upm_n (by omega), upm_s, if_pos (by omega)]
      have : nDi P 0 v 0 = 0 := rfl
      simp only [Nat.not_lt_zero, if_false, this, ite_self]; rfl
    · intro v hv
      rw [upm_s, if_pos hv]; rfl
    · intro v hv h
      exact absurd rfl h
  have key : ∃ σ', qX1_countUses_26 FU (s0, 0) = some σ' ∧ (Fq [89, 90, 92, 93] σ σ' ∧ Cu P (P_n P) 0 σ') := by
    refine lp_inv2 (fun b s => Fq [89, 90, 92, 93] σ s ∧ Cu P b 0 s) (P_n P) _ ?_ ?_ ⟨hF0, hC0⟩ (fu (by omega))
    · rintro b s hb' ⟨f1, f2⟩
      have h8 := hw.2.1 b (by omega)
      have hc1 : CP s 1 4 P := CP_fq f1 (by simp) hc
      have c1 := hc1.1
      have k1 : ∃ s', qX1_countUses_49 (nI b) (4 + 5 * b) FU (s, 0) = some s' ∧ (Fq [89, 90, 92, 93] σ s' ∧ Cu P b (P_m P b) s') := by
        refine lp_inv2 (fun i s => Fq [89, 90, 92, 93] σ s ∧ Cu P b i s) (P_m P b) _ ?_ ?_ ⟨f1, f2⟩ (fu (by omega))
        · rintro i s hi ⟨g1, g2⟩
          obtain ⟨s', q1, q2, q3⟩ := Cu_row hw hb' hi (CP_fq g1 (by simp) hc) g2
          exact ⟨s', q1, g1.tr q2 (by simp), q3⟩
        · rintro s ⟨g1, g2⟩
          have c3 := (CP_fq g1 (by simp) hc).2.2.1 b (by omega)
          refine ⟨s, fun rec => ?_, g1, g2⟩
          show gX1_countUses_49 (nI b) (4 + 5 * b) rec s (nI (P_m P b)) = _
          unfold gX1_countUses_49
          simp (disch := omega) only [obs, bd, jn, bn2, un2, bn3, un3, bns, nI_1, nI_clamp, gN, gN0, gN1, gN2, gN3, nI_leI, nI_ltI, nI_eq, li_le, li_lt, le_li, lt_li, eq_li, li_eq, li_mul, mul_li, add_li, nI_add, m_has, c_has, hI_0, bI_0, c3, if_pos]
      obtain ⟨s2, e2, g1, g2⟩ := k1
      have hc2 : CP s2 1 4 P := CP_fq g1 (by simp) hc
      refine ⟨upm s2 89 (cs1 (s2 89) b (eu P b) 12), fun rec => ?_, g1.up (by simp), ?_⟩
      · show gX1_countUses_26 rec s (nI b) = _
        unfold gX1_countUses_26
        simp (disch := omega) only [obs, bd, jn, bn2, un2, bn3, un3, bns, nI_1, nI_clamp, gN, gN0, gN1, gN2, gN3, nI_leI, nI_ltI, nI_eq, li_le, li_lt, le_li, lt_li, eq_li, li_eq, li_mul, mul_li, add_li, nI_add, m_has, c_has, hI_0, bI_0, c1, if_neg, e2, c_usedByEnd hw hc2, c_countSet]
      · obtain ⟨u1, u2, u3, u4⟩ := g2
        refine ⟨?_, ?_, ?_, ?_⟩
        · intro c v hc' hv
          rw [upm_s, cs1_at hv, u1 c v hc' hv]
          have z : nUi P (b + 1) v 0 = 0 := rfl
          by_cases q : c = b
          · subst q
            rw [if_pos (show c < c + 1 by omega)]
            simp only [Nat.lt_irrefl, if_false, if_true, true_and]
            unfold nU
            cases hb (eu P c) v
            · simp
            · simp only [if_true]; exact nI_add _ _
          · rw [if_neg (fun r => q r.1)]
            by_cases q2 : c < b
            · rw [if_pos q2, if_pos (by omega)]
            · rw [if_neg q2, if_neg q, if_neg (by omega), z]
              simp
        · intro c v hc' hv
          rw [upm_n (by omega), u2 c v hc' hv]
          have z : nDi P (b + 1) v 0 = 0 := rfl
          by_cases q : c = b
          · subst q
            rw [if_pos (show c < c + 1 by omega)]
            simp only [Nat.lt_irrefl, if_false, if_true]
            rfl
          · by_cases q2 : c < b
            · rw [if_pos q2, if_pos (by omega)]
            · rw [if_neg q2, if_neg q, if_neg (by omega), z]
              simp
        · intro v hv
          rw [upm_n (by omega), u3 v hv]
          rfl
        · intro v hv hne
          rw [upm_n (by omega)]
          obtain ⟨c, j, g1, g2, g3, g4, g5⟩ := u4 v hv hne
          exact ⟨c, j, by omega, g2, g3, g4, g5⟩
    · rintro s ⟨f1, f2⟩
      have c1 := (CP_fq f1 (by simp) hc).1
      refine ⟨s, fun rec => ?_, f1, f2⟩
      show gX1_countUses_26 rec s (nI (P_n P)) = _
      unfold gX1_countUses_26
      simp (disch := omega) only [obs, bd, jn, bn2, un2, bn3, un3, bns, nI_1, nI_clamp, gN, gN0, gN1, gN2, gN3, nI_leI, nI_ltI, nI_eq, li_le, li_lt, le_li, lt_li, eq_li, li_eq, li_mul, mul_li, add_li, nI_add, m_has, c_has, hI_0, bI_0, c1, if_pos]
  obtain ⟨σ', h1, h2⟩ := key
  refine ⟨σ', ?_, h2⟩
  rw [h1]
  rfl
