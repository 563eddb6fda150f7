/-! the only constant -/
def nEi (P : Pg) (b v i : Nat) : Nat := cnt (fun j => decide (P_t P b j = v) && decide (P_k P b j ≠ 0)) i
theorem nDCE {P : Pg} {b v i : Nat} : nDi P b v i = nCi P b v i + nEi P b v i := by
  unfold nDi nCi nEi
  induction i with
  | zero => rfl
  | succ i ih =>
    simp only [cnt]
    rw [ih]
    by_cases h1 : P_t P b i = v <;> by_cases h2 : P_k P b i = 0 <;> simp [h1, h2] <;> omega
theorem sDCE {P : Pg} {v n : Nat} : sm (fun b => nD P b v) n = sm (fun b => nC P b v) n + sm (fun b => nEi P b v (P_m P b)) n := by
  rw [← sm_add]
  exact sm_cg (fun k _ => nDCE)
theorem sm_at {f : Nat → Nat} {b n : Nat} (h : b < n) : sm f b + f b ≤ sm f n := @sm_up f (b + 1) n h
/-- two settings -/
theorem D_two {P : Pg} {v b i c j : Nat} (hb' : b < P_n P) (hi : i < P_m P b) (h1 : P_t P b i = v) (hc : c < P_n P) (hj : j < P_m P c) (h2 : P_t P c j = v) (hs : sm (fun b => nD P b v) (P_n P) = 1) : b = c ∧ i = j := by
  have k1 : ∀ b i, b < P_n P → i < P_m P b → P_t P b i = v → 1 ≤ nD P b v := fun b i _ hi h => by
    have := @cnt_lt (fun j => decide (P_t P b j = v)) i _ hi (decide_eq_true h)
    unfold nD nDi
    omega
  have q1 := k1 b i hb' hi h1
  have q2 := k1 c j hc hj h2
  rcases Nat.lt_trichotomy b c with e | e | e
  · have := @sm_at (fun b => nD P b v) b c e
    have := @sm_at (fun b => nD P b v) c _ hc
    omega
  · subst e
    refine ⟨rfl, ?_⟩
    have q3 := @sm_at (fun b => nD P b v) b _ hb'
    rcases Nat.lt_trichotomy i j with e | e | e
    · have := @cnt_lt (fun j => decide (P_t P b j = v)) i j e (decide_eq_true h1)
      have := @cnt_lt (fun j => decide (P_t P b j = v)) j _ hj (decide_eq_true h2)
      unfold nD nDi at q3 hs
      omega
    · exact e
    · have := @cnt_lt (fun j => decide (P_t P b j = v)) j i e (decide_eq_true h2)
      have := @cnt_lt (fun j => decide (P_t P b j = v)) i _ hi (decide_eq_true h1)
      unfold nD nDi at q3 hs
      omega
  · have := @sm_at (fun b => nD P b v) c b e
    have := @sm_at (fun b => nD P b v) b _ hb'
    omega
def RowJ (P : Pg) (v b i : Nat) (x : Int32) : Prop := (sm (fun b => nD P b v) b + nDi P b v i = 0 ∧ x = -1) ∨ (sm (fun b => nD P b v) b + nDi P b v i = 1 ∧ sm (fun b => nC P b v) b + nCi P b v i = 1 ∧ ∃ c j, (c < b ∨ (c = b ∧ j < i)) ∧ j < P_m P c ∧ P_t P c j = v ∧ P_k P c j = 0 ∧ x = nI (8 * c + j))
def RowN (P : Pg) (v : Nat) : Prop := ¬ (sm (fun b => nD P b v) (P_n P) = 1 ∧ sm (fun b => nC P b v) (P_n P) = 1)
theorem m_constantRow {σ : Mm} {P : Pg} (hw : WP P) (hm : MP σ 124 1 P) (hl : ML σ P) {v : Nat} (hv : v < 12) : ∃ r, fX10_constantRow σ (nI v) = some r ∧ ((cR P v = false ∧ r = -1) ∨ (cR P v = true ∧ ∃ b i, b < P_n P ∧ i < P_m P b ∧ P_t P b i = v ∧ P_k P b i = 0 ∧ r = nI (8 * b + i))) := by
  have hn := hw.1.2
  have hn0 := hw.1.1
  have m1 := hm.1
  have m3 := hm.2.2.1
  have m9 := hm.2.2.2.2.2.2.2.2.1
  have m10 := hm.2.2.2.2.2.2.2.2.2.1
  have e1 : ∀ b x, b < P_n P → RowJ P v b 0 x → ∃ r, qX10_constantRow_15 σ (nI v) (nI b) FU (x, 0) = some r ∧ ((r = .inl (-1) ∧ RowN P v) ∨ ∃ y, r = .inr y ∧ RowJ P v (b + 1) 0 y) := by
    intro b x hb' h0
    have h8 := hw.2.1 b (by omega)
    refine lp_inv2e (RowJ P v b) (P_m P b) _ ?_ ?_ h0 (fu (by omega))
    · intro i x hi hJ
      have ht := hw.2.2.2.2.2.2.2.2.1 b (by omega) i hi
      have hk := hw.2.2.2.2.2.2.2.1 b (by omega) i hi
      have eD : nDi P b v (i + 1) = nDi P b v i + (if decide (P_t P b i = v) = true then 1 else 0) := rfl
      have eC : nCi P b v (i + 1) = nCi P b v i + (if (decide (P_t P b i = v) && decide (P_k P b i = 0)) = true then 1 else 0) := rfl
      have eE : nEi P b v (i + 1) = nEi P b v i + (if (decide (P_t P b i = v) && decide (P_k P b i ≠ 0)) = true then 1 else 0) := rfl
      have bD : sm (fun b => nD P b v) b + nDi P b v (i + 1) ≤ sm (fun b => nD P b v) (P_n P) := by
        have q1 := @sm_at (fun b => nD P b v) b _ hb'
        have q2 := @cnt_up (fun j => decide (P_t P b j = v)) (i + 1) (P_m P b) hi
        unfold nD nDi at *
        omega
      have bE : sm (fun b => nEi P b v (P_m P b)) b + nEi P b v (i + 1) ≤ sm (fun b => nEi P b v (P_m P b)) (P_n P) := by
        have q1 := @sm_at (fun b => nEi P b v (P_m P b)) b _ hb'
        have q2 := @cnt_up (fun j => decide (P_t P b j = v) && decide (P_k P b j ≠ 0)) (i + 1) (P_m P b) hi
        unfold nEi at *
        omega
      have sE := @sDCE P v (P_n P)
      show (∃ r, (∀ rec, gX10_constantRow_15 σ (nI v) (nI b) rec x (nI i) = some r) ∧ _) ∨ ∃ a', (∀ rec, gX10_constantRow_15 σ (nI v) (nI b) rec x (nI i) = rec (a', nI (i + 1))) ∧ _
      have e0 : ∀ rec, gX10_constantRow_15 σ (nI v) (nI b) rec x (nI i) = if P_t P b i = v then (if 0 ≤ x then some (.inl (-1)) else if P_k P b i = 0 then rec (nI (8 * b + i), nI (i + 1)) else some (.inl (-1))) else rec (x, nI (i + 1)) := by
        intro rec
        unfold gX10_constantRow_15
        simp (disch := omega) only [obs, bd, jn, bn2, un2, bn3, un3, bns, nI_1, nI_clamp, gN, gN0, gN1, gN2, gN3, nI_leI, nI_ltI, nI_eq, li_le, li_lt, le_li, lt_li, eq_li, li_eq, li_mul, mul_li, add_li, nI_add, m_has, c_has, hI_0, bI_0, m3, m9, m10, if_neg]
      by_cases c1 : P_t P b i = v
      · rcases hJ with ⟨j1, j2⟩ | ⟨j1, j2, c, j, j3, j4, j5, j6, j7⟩
        · subst j2
          by_cases c2 : P_k P b i = 0
          · refine Or.inr ⟨nI (8 * b + i), fun rec => ?_, Or.inr ⟨?_, ?_, b, i, Or.inr ⟨rfl, by omega⟩, hi, c1, c2, rfl⟩⟩
            · rw [e0, if_pos c1, if_neg (by decide), if_pos c2]
            · rw [eD, decide_eq_true c1, if_pos rfl]; omega
            · have q : sm (fun b => nC P b v) b + nCi P b v i = 0 := by
                have q1 := @sDCE P v b
                have q2 := @nDCE P b v i
                omega
              rw [eC, c1, c2]; simp; omega
          · refine Or.inl ⟨.inl (-1), fun rec => ?_, Or.inl ⟨rfl, ?_⟩⟩
            · rw [e0, if_pos c1, if_neg (by decide), if_neg c2]
            · rintro ⟨q1, q2⟩
              rw [c1] at eE
              simp [c2] at eE
              omega
        · refine Or.inl ⟨.inl (-1), fun rec => ?_, Or.inl ⟨rfl, ?_⟩⟩
          · have : c < 8 := by omega
            have h8c := hw.2.1 c this
            rw [e0, if_pos c1, if_pos (by rw [j7]; exact (li_le (c := 0) (by decide) (by omega)).mpr (Nat.zero_le _))]
          · rintro ⟨q1, q2⟩
            rw [eD, decide_eq_true c1, if_pos rfl] at bD
            omega
      · refine Or.inr ⟨x, fun rec => ?_, ?_⟩
        · rw [e0, if_neg c1]
        · have eD' : nDi P b v (i + 1) = nDi P b v i := by rw [eD, decide_eq_false c1]; rfl
          have eC' : nCi P b v (i + 1) = nCi P b v i := by rw [eC, decide_eq_false c1]; rfl
          unfold RowJ
          rw [eD', eC']
          rcases hJ with h | ⟨j1, j2, c, j, j3, j4⟩
          · exact Or.inl h
          · exact Or.inr ⟨j1, j2, c, j, by omega, j4⟩
    · intro x hJ
      refine ⟨.inr x, fun rec => ?_, Or.inr ⟨x, rfl, ?_⟩⟩
      · show gX10_constantRow_15 σ (nI v) (nI b) rec x (nI (P_m P b)) = _
        unfold gX10_constantRow_15
        simp (disch := omega) only [obs, bd, jn, bn2, un2, bn3, un3, bns, nI_1, nI_clamp, gN, gN0, gN1, gN2, gN3, nI_leI, nI_ltI, nI_eq, li_le, li_lt, le_li, lt_li, eq_li, li_eq, li_mul, mul_li, add_li, nI_add, m_has, c_has, hI_0, bI_0, m3, if_pos]
      · rcases hJ with h | ⟨j1, j2, c, j, j3, j4⟩
        · exact Or.inl h
        · exact Or.inr ⟨j1, j2, c, j, by omega, j4⟩
  have e2 : ∃ r, qX10_constantRow_4 σ (nI v) FU (-1, 0) = some r ∧ ((r = .inl (-1) ∧ RowN P v) ∨ ∃ y, r = .inr y ∧ RowJ P v (P_n P) 0 y) := by
    refine lp_inv2e (fun b x => RowJ P v b 0 x) (P_n P) _ ?_ ?_ (Or.inl ⟨rfl, rfl⟩) (fu (by omega))
    · intro b x hb' hJ
      obtain ⟨r, q1, q2⟩ := e1 b x hb' hJ
      have e0 : ∀ rec, gX10_constantRow_4 σ (nI v) rec x (nI b) = bns (some r) (fun u => some (.inl u)) (fun v1 => rec (v1, nI (b + 1))) := by
        intro rec
        unfold gX10_constantRow_4
        rw [q1]
        simp (disch := omega) only [bd, li_le, le_li, add_li, nI_1, nI_add, nI_leI, m1, if_neg]
      rcases q2 with ⟨rfl, q3⟩ | ⟨y, rfl, q3⟩
      · exact Or.inl ⟨.inl (-1), fun rec => e0 rec, Or.inl ⟨rfl, q3⟩⟩
      · exact Or.inr ⟨y, fun rec => e0 rec, q3⟩
    · intro x hJ
      refine ⟨.inr x, fun rec => ?_, Or.inr ⟨x, rfl, hJ⟩⟩
      show gX10_constantRow_4 σ (nI v) rec x (nI (P_n P)) = _
      unfold gX10_constantRow_4
      simp (disch := omega) only [obs, bd, jn, bn2, un2, bn3, un3, bns, nI_1, nI_clamp, gN, gN0, gN1, gN2, gN3, nI_leI, nI_ltI, nI_eq, li_le, li_lt, le_li, lt_li, eq_li, li_eq, li_mul, mul_li, add_li, nI_add, m_has, c_has, hI_0, bI_0, m1, if_pos]
  obtain ⟨r, q1, q2⟩ := e2
  have l0 : σ 135 (Int32.toNatClampNeg 0) = LV P 0 := hl 0 hn0
  unfold fX10_constantRow
  rw [q1]
  rcases q2 with ⟨rfl, q3⟩ | ⟨y, rfl, q3⟩
  · refine ⟨-1, rfl, Or.inl ⟨?_, rfl⟩⟩
    apply decide_eq_false
    rintro ⟨h1, h2⟩
    refine q3 ⟨?_, h2⟩
    have sE := @sDCE P v (P_n P)
    split at h1 <;> omega
  · simp (disch := omega) only [obs, bd, jn, bn2, un2, bn3, un3, bns, nI_1, nI_clamp, gN, gN0, gN1, gN2, gN3, nI_leI, nI_ltI, nI_eq, li_le, li_lt, le_li, lt_li, eq_li, li_eq, li_mul, mul_li, add_li, nI_add, m_has, c_has, hI_0, bI_0, l0]
    have z1 : nDi P (P_n P) v 0 = 0 := rfl
    have z2 : nCi P (P_n P) v 0 = 0 := rfl
    cases c : hb (LV P 0) v
    · rw [if_pos rfl]
      refine ⟨y, rfl, ?_⟩
      rcases q3 with ⟨j1, j2⟩ | ⟨j1, j2, b, i, j3, j4, j5, j6, j7⟩
      · refine Or.inl ⟨decide_eq_false ?_, j2⟩
        rw [c, if_neg (by decide)]
        rw [z1] at j1
        omega
      · refine Or.inr ⟨decide_eq_true ?_, b, i, by omega, j4, j5, j6, j7⟩
        rw [c, if_neg (by decide)]
        rw [z1] at j1
        rw [z2] at j2
        omega
    · rw [if_neg (by decide)]
      refine ⟨-1, rfl, Or.inl ⟨decide_eq_false ?_, rfl⟩⟩
      rw [c, if_pos rfl]
      have sE := @sDCE P v (P_n P)
      omega
theorem m_cRow {σ : Mm} {P : Pg} (hw : WP P) (hm : MP σ 124 1 P) (hl : ML σ P) {v : Nat} (hv : v < 12) {α : Type} (X Y : Option α) : ((fX10_constantRow σ (nI v)).bind fun r => if r < 0 then X else Y) = if cR P v = true then Y else X := by
  obtain ⟨r, e, h⟩ := m_constantRow hw hm hl hv
  rw [e]
  simp only [obs]
  rcases h with ⟨h1, rfl⟩ | ⟨h1, b, i, hb', hi, -, -, rfl⟩
  · rw [if_pos (by decide), h1, if_neg (by decide)]
  · have h8 := hw.2.1 b (by have := hw.1.2; omega)
    rw [if_neg (nI_ge0 (by have := hw.1.2; omega)), h1, if_pos rfl]
theorem m_costOut {σ : Mm} {P : Pg} (hw : WP P) (hm : MP σ 124 1 P) (hl : ML σ P) {v : Nat} (hv : v < 12) {x : Int32} : fX10_costOut σ (nI v) x = some (nI (if x ≠ 0 ∧ cR P v = true then rC P v else mC P v)) := by
  unfold fX10_costOut
  by_cases c : x = 0
  · rw [if_pos c, m_memoryCost hw hm hl hv, if_neg (fun q => q.1 c)]
    rfl
  · rw [if_neg c, m_cRow hw hm hl hv, m_memoryCost hw hm hl hv, m_all hm]
    simp only [obs]
    rw [m_sumU hw hm hv, sU_all hw]
    by_cases c2 : cR P v = true
    · rw [if_pos c2, if_pos ⟨c, c2⟩]; rfl
    · rw [if_neg c2, if_neg (fun q => c2 q.2)]
