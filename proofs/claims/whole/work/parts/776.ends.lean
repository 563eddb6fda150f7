/-! reading: the ends -/
theorem c_finish {σ : Mm} {k : Nat} {x1 x2 x3 x4 : Int32} : fX0_finish σ k x1 x2 x3 x4 = some (upm σ k (upd (upd (upd (upd (σ k) 5 x1) 6 (if x1 = 0 then -1 else x2)) 7 (if x1 = 2 then -1 else x3)) 8 (if x1 = 1 then x4 else -1))) := by
  unfold fX0_finish
  simp only [bd, jn, upm_s, upm_u]
  by_cases a : x1 = 0
  · have b : ¬ x1 = 2 := by rw [a]; decide
    have d : ¬ x1 = 1 := by rw [a]; decide
    rw [if_pos a, if_pos a, if_neg b, if_neg b, if_neg d, if_neg d]
  · rw [if_neg a, if_neg a]
    by_cases b : x1 = 2
    · have d : ¬ x1 = 1 := by rw [b]; decide
      rw [if_pos b, if_pos b, if_neg d, if_neg d]
    · rw [if_neg b, if_neg b]
      by_cases d : x1 = 1
      · rw [if_pos d, if_pos d]
      · rw [if_neg d, if_neg d]
def fin1 (σ : Mm) (x1 x2 x3 x4 : Int32) : Mm := upm σ 115 (upd (upd (upd (upd (σ 115) 5 x1) 6 (if x1 = 0 then -1 else x2)) 7 (if x1 = 2 then -1 else x3)) 8 (if x1 = 1 then x4 else -1))
theorem c_fd0 {σ : Mm} {f : Int32} : fX8_finishDraft σ 0 (-1) f (-1) = if f = -1 then some (0, σ) else some (1, fin1 σ 0 (-1) f (-1)) := by
  unfold fX8_finishDraft
  rw [c_finish]
  by_cases a : f = -1
  · rw [if_pos a]; simp [jn, a]
  · rw [if_neg a]; simp [jn, a, fin1]
theorem c_fd1 {σ : Mm} {v f s : Int32} (hv : ¬ v = -1) (hf : ¬ f = -1) : fX8_finishDraft σ 1 v f s = if s = -1 then some (0, σ) else some (1, fin1 σ 1 v f s) := by
  unfold fX8_finishDraft
  rw [c_finish]
  by_cases a : s = -1
  · rw [if_pos a]; simp [jn, a, hv, hf]
  · rw [if_neg a]; simp [jn, a, hv, hf, fin1]
theorem c_fd2 {σ : Mm} {v : Int32} : fX8_finishDraft σ 2 v (-1) (-1) = if v = -1 then some (0, σ) else some (1, fin1 σ 2 v (-1) (-1)) := by
  unfold fX8_finishDraft
  rw [c_finish]
  by_cases a : v = -1
  · rw [if_pos a]; simp [jn, a]
  · rw [if_neg a]; simp [jn, a, fin1]
theorem f_mis {f : Nat → Prop} : ∀ L, ∃ k, k ≤ L ∧ (∀ j, j < k → f j) ∧ (k = L ∨ ¬ f k) := by
  intro L
  induction L with
  | zero => exact ⟨0, Nat.le_refl _, fun j hj => by omega, Or.inl rfl⟩
  | succ L ih =>
    obtain ⟨k, h1, h2, h3⟩ := ih
    rcases h3 with e | e
    · subst e
      by_cases c : f k
      · refine ⟨k + 1, Nat.le_refl _, fun j hj => ?_, Or.inl rfl⟩
        rcases Nat.lt_or_ge j k with q | q
        · exact h2 j q
        · have : j = k := by omega
          subst this; exact c
      · exact ⟨k, by omega, h2, Or.inr c⟩
    · exact ⟨k, by omega, h2, Or.inr e⟩
theorem wd {n nb p L : Nat} {c : Nat → Nat} {σ : Mm} (ch : Nat → Nat) {step : (Mm × Int32 → Option ((Int32 × Mm) ⊕ Mm)) → Mm × Int32 → Option ((Int32 × Mm) ⊕ Mm)} (hs1 : ∀ j, j < L → ∀ q s rec, IC n c nb q s → step rec (s, nI j) = if sgn n c q = ch j then rec (aC s (q + 1), nI (j + 1)) else some (.inl (0, s))) (hs2 : ∀ s rec, step rec (s, nI L) = some (.inr s)) (hpos : ∀ j, j < L → 0 < ch j) (h : IC n c nb p σ) {N : Nat} (hN : L < N) : ∃ k, k ≤ L ∧ p + k ≤ n ∧ (∀ j, j < k → sgn n c (p + j) = ch j) ∧ ((k = L ∧ lp step N (σ, 0) = some (.inr (aC σ (p + k)))) ∨ (k < L ∧ sgn n c (p + k) ≠ ch k ∧ lp step N (σ, 0) = some (.inl (0, aC σ (p + k))))) := by
  obtain ⟨k, h1, h2, h3⟩ := f_mis (f := fun j => sgn n c (p + j) = ch j) L
  have hq : ∀ j, j ≤ k → p + j ≤ n := fun j hj => by
    rcases Nat.eq_zero_or_pos j with e | e
    · subst e; exact h.2.2.2.1
    · have a := h2 (j - 1) (by omega)
      have b := hpos (j - 1) (by omega)
      have := sg_lt (n := n) (c := c) (q := p + (j - 1)) (by omega)
      omega
  refine ⟨k, h1, hq k (Nat.le_refl _), h2, ?_⟩
  have st : ∀ j, j < k → ∀ rec, step rec (aC σ (p + j), nI j) = rec (aC σ (p + (j + 1)), nI (j + 1)) := fun j hj rec => by
    rw [hs1 j (by omega) (p + j) _ rec (h.at (hq j (by omega))), if_pos (h2 j hj), aC_aC]
    rfl
  have z : (aC σ (p + 0), nI 0) = (σ, (0 : Int32)) := by
    rw [Nat.add_zero, aC_id h.2.1]; rfl
  by_cases e : k = L
  · refine Or.inl ⟨e, ?_⟩
    exact lp_fr (fun j => (aC σ (p + j), nI j)) k z st (fun rec => by rw [e]; exact hs2 _ _) (by omega)
  · have e2 : ¬ sgn n c (p + k) = ch k := by
      rcases h3 with q | q
      · exact absurd q e
      · exact q
    refine Or.inr ⟨by omega, e2, ?_⟩
    exact lp_fr (fun j => (aC σ (p + j), nI j)) k z st (fun rec => by rw [hs1 k (by omega) (p + k) _ rec (h.at (hq k (Nat.le_refl _))), if_neg e2]) (by omega)
def w0 (j : Nat) : Nat := if j = 0 then 103 else if j = 1 then 111 else 32
def w1 (j : Nat) : Nat := if j = 0 then 105 else if j = 1 then 102 else 32
def w2 (j : Nat) : Nat := if j = 0 then 115 else if j = 1 then 116 else if j = 2 then 111 else if j = 3 then 112 else 32
theorem w0_s : ∀ j, j < 3 → schr 0 j = nI (w0 j) ∧ 0 < w0 j ∧ w0 j < 65536 := by decide +kernel
theorem w1_s : ∀ j, j < 3 → schr 1 j = nI (w1 j) ∧ 0 < w1 j ∧ w1 j < 65536 := by decide +kernel
theorem w2_s : ∀ j, j < 5 → schr 2 j = nI (w2 j) ∧ 0 < w2 j ∧ w2 j < 65536 := by decide +kernel
theorem c_w0 {n nb p : Nat} {c : Nat → Nat} {σ : Mm} (ho : OKC n c) (h : IC n c nb p σ) : ∃ k, k ≤ 3 ∧ p + k ≤ n ∧ (∀ j, j < k → sgn n c (p + j) = w0 j) ∧ ((k = 3 ∧ fX8_takeWord_t0 σ = some (1, aC σ (p + k))) ∨ (k < 3 ∧ sgn n c (p + k) ≠ w0 k ∧ fX8_takeWord_t0 σ = some (0, aC σ (p + k)))) := by
  obtain ⟨k, h1, h1', h2, h3⟩ := wd (n := n) (c := c) (nb := nb) (p := p) (L := 3) (σ := σ) w0 (step := fun rec s => gX8_takeWord_t0_2 rec s.1 s.2) (fun j hj q s rec hi => by
    show gX8_takeWord_t0_2 rec s (nI j) = _
    unfold gX8_takeWord_t0_2
    simp (disch := omega) only [obs, bd, jn, bn2, un2, bn3, un3, bns, nI_1, nI_clamp, gN, gN0, gN1, gN2, gN3, nI_leI, nI_ltI, nI_eq, li_le, li_lt, le_li, lt_li, eq_li, li_eq, li_mul, mul_li, add_li, nI_add, m_has, c_has, hI_0, bI_0, if_neg]
    rw [(w0_s j hj).1, c_take ho hi (w0_s j hj).2.1 (w0_s j hj).2.2]
    by_cases e : sgn n c q = w0 j
    · rw [if_pos e, if_pos e]; rfl
    · rw [if_neg e, if_neg e]; rfl) (fun s rec => by
    show gX8_takeWord_t0_2 rec s (nI 3) = _
    unfold gX8_takeWord_t0_2
    simp (disch := omega) only [obs, bd, jn, bn2, un2, bn3, un3, bns, nI_1, nI_clamp, gN, gN0, gN1, gN2, gN3, nI_leI, nI_ltI, nI_eq, li_le, li_lt, le_li, lt_li, eq_li, li_eq, li_mul, mul_li, add_li, nI_add, m_has, c_has, hI_0, bI_0, if_pos]) (fun j hj => (w0_s j hj).2.1) h (N := FU) (fu (by omega))
  refine ⟨k, h1, h1', h2, ?_⟩
  unfold fX8_takeWord_t0
  rcases h3 with ⟨e, l⟩ | ⟨e, d, l⟩
  · exact Or.inl ⟨e, by rw [show qX8_takeWord_t0_2 FU (σ, 0) = some (.inr (aC σ (p + k))) from l]; rfl⟩
  · exact Or.inr ⟨e, d, by rw [show qX8_takeWord_t0_2 FU (σ, 0) = some (.inl (0, aC σ (p + k))) from l]; rfl⟩
theorem c_w1 {n nb p : Nat} {c : Nat → Nat} {σ : Mm} (ho : OKC n c) (h : IC n c nb p σ) : ∃ k, k ≤ 3 ∧ p + k ≤ n ∧ (∀ j, j < k → sgn n c (p + j) = w1 j) ∧ ((k = 3 ∧ fX8_takeWord_t1 σ = some (1, aC σ (p + k))) ∨ (k < 3 ∧ sgn n c (p + k) ≠ w1 k ∧ fX8_takeWord_t1 σ = some (0, aC σ (p + k)))) := by
  obtain ⟨k, h1, h1', h2, h3⟩ := wd (n := n) (c := c) (nb := nb) (p := p) (L := 3) (σ := σ) w1 (step := fun rec s => gX8_takeWord_t1_2 rec s.1 s.2) (fun j hj q s rec hi => by
    show gX8_takeWord_t1_2 rec s (nI j) = _
    unfold gX8_takeWord_t1_2
    simp (disch := omega) only [obs, bd, jn, bn2, un2, bn3, un3, bns, nI_1, nI_clamp, gN, gN0, gN1, gN2, gN3, nI_leI, nI_ltI, nI_eq, li_le, li_lt, le_li, lt_li, eq_li, li_eq, li_mul, mul_li, add_li, nI_add, m_has, c_has, hI_0, bI_0, if_neg]
    rw [(w1_s j hj).1, c_take ho hi (w1_s j hj).2.1 (w1_s j hj).2.2]
    by_cases e : sgn n c q = w1 j
    · rw [if_pos e, if_pos e]; rfl
    · rw [if_neg e, if_neg e]; rfl) (fun s rec => by
    show gX8_takeWord_t1_2 rec s (nI 3) = _
    unfold gX8_takeWord_t1_2
    simp (disch := omega) only [obs, bd, jn, bn2, un2, bn3, un3, bns, nI_1, nI_clamp, gN, gN0, gN1, gN2, gN3, nI_leI, nI_ltI, nI_eq, li_le, li_lt, le_li, lt_li, eq_li, li_eq, li_mul, mul_li, add_li, nI_add, m_has, c_has, hI_0, bI_0, if_pos]) (fun j hj => (w1_s j hj).2.1) h (N := FU) (fu (by omega))
  refine ⟨k, h1, h1', h2, ?_⟩
  unfold fX8_takeWord_t1
  rcases h3 with ⟨e, l⟩ | ⟨e, d, l⟩
  · exact Or.inl ⟨e, by rw [show qX8_takeWord_t1_2 FU (σ, 0) = some (.inr (aC σ (p + k))) from l]; rfl⟩
  · exact Or.inr ⟨e, d, by rw [show qX8_takeWord_t1_2 FU (σ, 0) = some (.inl (0, aC σ (p + k))) from l]; rfl⟩
theorem c_w2 {n nb p : Nat} {c : Nat → Nat} {σ : Mm} (ho : OKC n c) (h : IC n c nb p σ) : ∃ k, k ≤ 5 ∧ p + k ≤ n ∧ (∀ j, j < k → sgn n c (p + j) = w2 j) ∧ ((k = 5 ∧ fX8_takeWord_t2 σ = some (1, aC σ (p + k))) ∨ (k < 5 ∧ sgn n c (p + k) ≠ w2 k ∧ fX8_takeWord_t2 σ = some (0, aC σ (p + k)))) := by
  obtain ⟨k, h1, h1', h2, h3⟩ := wd (n := n) (c := c) (nb := nb) (p := p) (L := 5) (σ := σ) w2 (step := fun rec s => gX8_takeWord_t2_2 rec s.1 s.2) (fun j hj q s rec hi => by
    show gX8_takeWord_t2_2 rec s (nI j) = _
    unfold gX8_takeWord_t2_2
    simp (disch := omega) only [obs, bd, jn, bn2, un2, bn3, un3, bns, nI_1, nI_clamp, gN, gN0, gN1, gN2, gN3, nI_leI, nI_ltI, nI_eq, li_le, li_lt, le_li, lt_li, eq_li, li_eq, li_mul, mul_li, add_li, nI_add, m_has, c_has, hI_0, bI_0, if_neg]
    rw [(w2_s j hj).1, c_take ho hi (w2_s j hj).2.1 (w2_s j hj).2.2]
    by_cases e : sgn n c q = w2 j
    · rw [if_pos e, if_pos e]; rfl
    · rw [if_neg e, if_neg e]; rfl) (fun s rec => by
    show gX8_takeWord_t2_2 rec s (nI 5) = _
    unfold gX8_takeWord_t2_2
    simp (disch := omega) only [obs, bd, jn, bn2, un2, bn3, un3, bns, nI_1, nI_clamp, gN, gN0, gN1, gN2, gN3, nI_leI, nI_ltI, nI_eq, li_le, li_lt, le_li, lt_li, eq_li, li_eq, li_mul, mul_li, add_li, nI_add, m_has, c_has, hI_0, bI_0, if_pos]) (fun j hj => (w2_s j hj).2.1) h (N := FU) (fu (by omega))
  refine ⟨k, h1, h1', h2, ?_⟩
  unfold fX8_takeWord_t2
  rcases h3 with ⟨e, l⟩ | ⟨e, d, l⟩
  · exact Or.inl ⟨e, by rw [show qX8_takeWord_t2_2 FU (σ, 0) = some (.inr (aC σ (p + k))) from l]; rfl⟩
  · exact Or.inr ⟨e, d, by rw [show qX8_takeWord_t2_2 FU (σ, 0) = some (.inl (0, aC σ (p + k))) from l]; rfl⟩
/-! steps of the relation -/
def s3 (τ : Mm) (i : Nat) (x : Int32) : Mm := upm τ 123 (upd (τ 123) i x)
theorem s3_n {τ : Mm} {i j : Nat} {x : Int32} (h : j ≠ 123) : s3 τ i x j = τ j := upm_n h
theorem s3_i {τ : Mm} {i j : Nat} {x : Int32} (h : j ≠ i) : s3 τ i x 123 j = τ 123 j := by unfold s3; rw [upm_s, upd_a, if_neg h]
theorem s3_s {τ : Mm} {i : Nat} {x : Int32} : s3 τ i x 123 i = x := by unfold s3; rw [upm_s, upd_a, if_pos rfl]
theorem RD.at {σ0 τ0 σ τ : Mm} {n nb p m q : Nat} {c : Nat → Nat} (h : RD σ0 τ0 n c nb p m σ τ) (hq : q ≤ n) : RD σ0 τ0 n c nb q m (aC σ q) (aM τ q) := by
  obtain ⟨h1, h2, h3, h4, h5, h6, h7⟩ := h
  refine ⟨h1.aC.aM, h2.at hq, h3.at, (aM_i (by omega)).trans h4, by rw [aC_n (by omega)]; exact h5, (aM_i (by omega)).trans h6, fun i hi => ?_⟩
  simp (disch := omega) only [aC_n, aM_n]
  exact h7 i hi
theorem RD.s3 {σ0 τ0 σ τ : Mm} {n nb p m i : Nat} {c : Nat → Nat} {x : Int32} (h : RD σ0 τ0 n c nb p m σ τ) (hi : i = 51 ∨ i = 52 ∨ i = 53 ∨ i = 54) : RD σ0 τ0 n c nb p m σ (s3 τ i x) := by
  obtain ⟨h1, h2, h3, h4, h5, h6, h7⟩ := h
  refine ⟨h1.u3 (by omega), h2, IM_u3 h3 (by omega), (s3_i (by omega)).trans h4, h5, (s3_i (by omega)).trans h6, fun j hj => ?_⟩
  simp (disch := omega) only [s3_n]
  exact h7 j hj
theorem RD.wr {σ0 τ0 σ τ : Mm} {n nb p m : Nat} {c : Nat → Nat} (h : RD σ0 τ0 n c nb p m σ τ) : WRg σ0 τ0 n p σ (wM τ) := ⟨h.1.wM, h.2.1.2.2.2.1, h.2.1.2.1, (wM_i (by omega)).trans h.2.2.1.2.1, wM_45⟩
theorem WRg.s3 {σ0 τ0 σ τ : Mm} {n p i : Nat} {x : Int32} (h : WRg σ0 τ0 n p σ τ) (hi : i = 51 ∨ i = 52 ∨ i = 53 ∨ i = 54) : WRg σ0 τ0 n p σ (s3 τ i x) := ⟨h.1.u3 (by omega), h.2.1, h.2.2.1, (s3_i (by omega)).trans h.2.2.2.1, (s3_i (by omega)).trans h.2.2.2.2⟩
theorem RD.fin {σ0 τ0 σ τ : Mm} {n nb p m : Nat} {c : Nat → Nat} {x1 x2 x3 x4 : Int32} (h : RD σ0 τ0 n c nb p m σ τ) : RD σ0 τ0 n c nb p m (fin1 σ x1 x2 x3 x4) τ := by
  obtain ⟨h1, h2, h3, h4, h5, h6, h7⟩ := h
  refine ⟨h1.C (by omega), IC_up h2 (by omega), h3, h4, ?_, h6, fun j hj => ?_⟩
  · unfold fin1
    rw [upm_s, upd_a, if_neg (by omega), upd_a, if_neg (by omega), upd_a, if_neg (by omega), upd_a, if_neg (by omega)]; exact h5
  · unfold fin1
    simp (disch := omega) only [upm_n, ne_eq]
    exact h7 j hj
theorem fin_5 {σ : Mm} {x1 x2 x3 x4 : Int32} : fin1 σ x1 x2 x3 x4 115 5 = x1 ∧ fin1 σ x1 x2 x3 x4 115 6 = (if x1 = 0 then -1 else x2) ∧ fin1 σ x1 x2 x3 x4 115 7 = (if x1 = 2 then -1 else x3) ∧ fin1 σ x1 x2 x3 x4 115 8 = (if x1 = 1 then x4 else -1) := by
  unfold fin1
  simp (disch := omega) only [upm_s, upd_a, if_neg, if_true, and_self]
def ENd (nb : Nat) (σ τ : Mm) : Prop := ∃ e v f s : Nat, σ 115 5 = nI e ∧ σ 115 6 = (if e = 0 then -1 else nI v) ∧ σ 115 7 = (if e = 2 then -1 else nI f) ∧ σ 115 8 = (if e = 1 then nI s else -1) ∧ τ 123 51 = nI e ∧ (e ≠ 0 → τ 123 52 = nI v) ∧ (e ≠ 2 → τ 123 53 = nI f) ∧ (e = 1 → τ 123 54 = nI s) ∧ e ≤ 2 ∧ (e ≠ 0 → v < 12) ∧ (e ≠ 2 → f < nb) ∧ (e = 1 → s < nb)
def EO (σ0 τ0 : Mm) (n : Nat) (c : Nat → Nat) (nb m : Nat) (C : Option (Int32 × Mm)) (M : Option Mm) : Prop := ∃ σ' τ' p' x, C = some (bI x, σ') ∧ M = some τ' ∧ ((x = true ∧ RD σ0 τ0 n c nb p' m σ' τ' ∧ ENd nb σ' τ') ∨ (x = false ∧ WRg σ0 τ0 n p' σ' τ'))
theorem rd_go {σ0 τ0 σ τ : Mm} {n nb p m : Nat} {c : Nat → Nat} (ho : OKC n c) (hb1 : 1 ≤ nb) (hb8 : nb ≤ 8) (hR : RD σ0 τ0 n c nb p m σ τ) (h0 : sgn n c p = 103) (h1 : sgn n c (p + 1) = 111) : EO σ0 τ0 n c nb m (bn2 (fX8_takeWord_t0 σ) fun r18 σ19 => if r18 = 0 then some (0, σ19) else bn2 (fX8_takeBlock σ19) fun r20 σ21 => bn2 (fX8_finishDraft σ21 0 (-1) r20 (-1)) fun r22 σ23 => if r22 = 0 then some (0, σ23) else some (1, σ23)) (fX10_readGo τ) := by
  obtain ⟨k, k1, k1', k2, k3⟩ := c_w0 ho hR.2.1
  have hl := sg_lt (n := n) (c := c) (q := p + 1) (by omega)
  have R2' := hR.at (q := p + 2) (by omega)
  unfold fX10_readGo
  rw [hR.2.2.1.2.1, show nI p + 2 = nI (p + 2) from nI_add p 2]
  simp only [bd]
  rw [show upm τ 123 (upd (τ 123) 44 (nI (p + 2))) = aM τ (p + 2) from rfl, m_bln ho R2'.2.2.1 (by omega) R2'.2.2.2.1]
  have kk : k = 2 ∨ k = 3 := by
    rcases k3 with ⟨e, -⟩ | ⟨e, d, -⟩
    · exact Or.inr e
    · rcases (show k = 0 ∨ k = 1 ∨ k = 2 by omega) with e | e | e
      · subst e; exact absurd h0 d
      · subst e; exact absurd h1 d
      · exact Or.inl e
  rcases kk with e | e
  · subst e
    rcases k3 with ⟨e, -⟩ | ⟨-, d, l⟩
    · omega
    · have d' : ¬ sgn n c (p + 2) = 32 := d
      rw [if_neg d', l]
      simp only [bn2, obs, un2, if_true]
      rw [show upm (wM (aM τ (p + 2))) 123 (upd (wM (aM τ (p + 2)) 123) 51 0) = s3 (wM (aM τ (p + 2))) 51 0 from rfl, m_digW ((s3_i (by omega)).trans wM_45), wM_id ((s3_i (by omega)).trans wM_45)]
      simp only [obs, un2]
      exact ⟨_, _, p + 2, false, rfl, rfl, Or.inr ⟨rfl, (R2'.wr.s3 (by omega)).s3 (by omega)⟩⟩
  · subst e
    rcases k3 with ⟨-, l⟩ | ⟨e, -, -⟩
    · have d' : sgn n c (p + 2) = 32 := k2 2 (by omega)
      have R3 := hR.at (q := p + 3) (by omega)
      rw [if_pos d', l]
      simp only [bn2, obs, un2]
      rw [if_neg (by decide), aM_aM, show upm (aM τ (p + 2 + 1)) 123 (upd (aM τ (p + 2 + 1) 123) 51 0) = s3 (aM τ (p + 3)) 51 0 from rfl, c_takeBl ho hb1 hb8 R3.2.1, m_dig ho hb1 hb8 (R3.s3 (i := 51) (x := 0) (by omega)).2.2.1 (by omega) (R3.s3 (i := 51) (x := 0) (by omega)).2.2.2.1]
      by_cases b : 48 ≤ sgn n c (p + 3) ∧ sgn n c (p + 3) < 48 + nb
      · have hl3 := sg_lt (n := n) (c := c) (q := p + 3) (by omega)
        rw [if_pos b, if_pos b]
        simp only [obs, un2]
        rw [c_fd0, if_neg (nI_ne_m1 (by omega))]
        simp only [obs, un2]
        rw [if_neg (by decide)]
        have R4' := ((R3.s3 (i := 51) (x := 0) (by omega)).at (q := p + 4) (by omega)).s3 (i := 53) (x := nI (sgn n c (p + 3) - 48)) (by omega)
        refine ⟨_, _, p + 4, true, rfl, rfl, Or.inl ⟨rfl, R4'.fin, 0, 0, sgn n c (p + 3) - 48, 0, fin_5.1, ?_, ?_, ?_, ?_, ?_, ?_, ?_, by omega, fun q => absurd rfl q, fun _ => by omega, fun q => by omega⟩⟩
        · rw [fin_5.2.1, if_pos rfl, if_pos rfl]
        · rw [fin_5.2.2.1, if_neg (by decide), if_neg (by decide)]
        · rw [fin_5.2.2.2, if_neg (by decide), if_neg (by decide)]
        · show s3 (aM (s3 (aM τ (p + 3)) 51 0) (p + 4)) 53 _ 123 51 = _
          rw [s3_i (by omega), aM_i (by omega), s3_s]; rfl
        · exact fun q => absurd rfl q
        · intro _
          exact s3_s
        · intro q; omega
      · rw [if_neg b, if_neg b]
        simp only [obs, un2]
        rw [c_fd0, if_pos rfl]
        simp only [obs, un2, if_true]
        exact ⟨_, _, p + 3, false, rfl, rfl, Or.inr ⟨rfl, ((R3.s3 (i := 51) (x := 0) (by omega)).wr).s3 (by omega)⟩⟩
    · omega
