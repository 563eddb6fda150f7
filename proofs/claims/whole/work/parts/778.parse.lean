/-! reading: the whole text -/
abbrev stI (n : Nat) (c : Nat → Nat) (p : Nat) : Prop := (97 ≤ sgn n c p ∧ sgn n c p ≤ 108) ∧ ¬ (sgn n c p = 103 ∧ sgn n c (p + 1) = 111) ∧ ¬ (sgn n c p = 105 ∧ sgn n c (p + 1) = 102)
theorem c_starts {n nb p : Nat} {c : Nat → Nat} {σ : Mm} (ho : OKC n c) (h : IC n c nb p σ) : ∃ x, fX8_startsInstruction σ = some (bI x) ∧ (x = true ↔ stI n c p) := by
  have hn := ho.1
  have hp := h.2.2.2.1
  have s0 := sgn_lt ho p
  have s1 := sgn_lt ho (p + 1)
  have e1 : fX8_signAt σ (σ 113 3 + 1) = some (nI (sgn n c (p + 1))) := by
    rw [h.2.1, nI_1]
    exact c_signAt ho h (by omega)
  have key : ∀ v3 : Int32, (if nI (sgn n c p) < 97 then (some 0 : Option Int32) else if 108 < nI (sgn n c p) then some 0 else if v3 = 0 then some 1 else some 0) = if (97 ≤ sgn n c p ∧ sgn n c p ≤ 108) ∧ v3 = 0 then some 1 else some 0 := by
    intro v3
    simp (disch := omega) only [obs, bd, jn, bn2, un2, bn3, un3, bns, nI_1, nI_clamp, gN, gN0, gN1, gN2, gN3, nI_leI, nI_ltI, nI_eq, li_le, li_lt, le_li, lt_li, eq_li, li_eq, li_mul, mul_li, add_li, nI_add, m_has, c_has, hI_0, bI_0]
    by_cases a : sgn n c p < 97
    · rw [if_pos a, if_neg (by omega)]
    · rw [if_neg a]
      by_cases b : 108 < sgn n c p
      · rw [if_pos b, if_neg (by omega)]
      · rw [if_neg b]
        by_cases d : v3 = 0
        · rw [if_pos d, if_pos ⟨by omega, d⟩]
        · rw [if_neg d, if_neg (fun q => d q.2)]
  have q1 : (nI (sgn n c p) = 103) ↔ sgn n c p = 103 := eq_li (c := 103) (by decide) (by omega)
  have q2 : (nI (sgn n c p) = 105) ↔ sgn n c p = 105 := eq_li (c := 105) (by decide) (by omega)
  have q3 : (nI (sgn n c (p + 1)) = 111) ↔ sgn n c (p + 1) = 111 := eq_li (c := 111) (by decide) (by omega)
  have q4 : (nI (sgn n c (p + 1)) = 102) ↔ sgn n c (p + 1) = 102 := eq_li (c := 102) (by decide) (by omega)
  have k0 : (if nI (sgn n c p) < 97 then (some 0 : Option Int32) else if 108 < nI (sgn n c p) then some 0 else if True then some 1 else some 0) = if (97 ≤ sgn n c p ∧ sgn n c p ≤ 108) ∧ (0 : Int32) = 0 then some 1 else some 0 := key 0
  refine ⟨decide (stI n c p), ?_, decide_eq_true_iff⟩
  unfold fX8_startsInstruction
  rw [c_sign ho h, e1]
  simp only [obs, jn]
  rw [key 1, k0, if_neg (fun q : (97 ≤ sgn n c p ∧ sgn n c p ≤ 108) ∧ (1 : Int32) = 0 => absurd q.2 (by decide))]
  by_cases a1 : sgn n c p = 103 ∧ sgn n c (p + 1) = 111
  · rw [if_pos (q1.mpr a1.1), if_pos (q3.mpr a1.2), decide_eq_false (fun q => q.2.1 a1)]; rfl
  · by_cases a2 : sgn n c p = 105 ∧ sgn n c (p + 1) = 102
    · rw [if_neg (fun q => by have := q1.mp q; omega), if_pos (q2.mpr a2.1), if_pos (q4.mpr a2.2), decide_eq_false (fun q => q.2.2 a2)]; rfl
    · have fin : (if (97 ≤ sgn n c p ∧ sgn n c p ≤ 108) ∧ (0 : Int32) = 0 then (some 1 : Option Int32) else some 0) = some (bI (decide (stI n c p))) := by
        by_cases b : 97 ≤ sgn n c p ∧ sgn n c p ≤ 108
        · rw [if_pos ⟨b, rfl⟩, decide_eq_true (show stI n c p from ⟨b, a1, a2⟩)]; rfl
        · rw [if_neg (fun q => b q.1), decide_eq_false (fun q : stI n c p => b q.1)]; rfl
      by_cases b1' : sgn n c p = 103
      · rw [if_pos (q1.mpr b1'), if_neg (fun q => a1 ⟨b1', q3.mp q⟩), if_neg (fun q => by have := q2.mp q; omega)]; exact fin
      · rw [if_neg (fun q => b1' (q1.mp q))]
        by_cases b2 : sgn n c p = 105
        · rw [if_pos (q2.mpr b2), if_neg (fun q => a2 ⟨b2, q4.mp q⟩)]; exact fin
        · rw [if_neg (fun q => b2 (q2.mp q))]; exact fin
theorem rd_ending {σ0 τ0 σ τ : Mm} {n nb p m : Nat} {c : Nat → Nat} (ho : OKC n c) (hb1 : 1 ≤ nb) (hb8 : nb ≤ 8) (hm : m ≤ 8) (hR : RD σ0 τ0 n c nb p m σ τ) (hs : m = 8 ∨ ¬ stI n c p) : ∃ σ' τ' p' x, fX8_parseEnding σ = some (bI x, σ') ∧ fX10_readOne τ = some (1, τ') ∧ ((x = true ∧ RD σ0 τ0 n c nb p' m σ' τ' ∧ ENd nb σ' τ') ∨ (x = false ∧ WRg σ0 τ0 n p' σ' τ')) := by
  have s0 := sgn_lt ho p
  have hp := hR.2.1.2.2.2.1
  rw [m_readOne ho hR.2.2.1 hp hR.2.2.2.1 hm hR.2.2.2.2.2.1]
  unfold fX8_parseEnding
  rw [c_sign ho hR.2.1]
  simp only [obs]
  have fin : ∀ {C : Option (Int32 × Mm)} {M : Option Mm}, EO σ0 τ0 n c nb m C M → ∃ σ' τ' p' x, C = some (bI x, σ') ∧ (M.bind fun s => some ((1 : Int32), s)) = some (1, τ') ∧ ((x = true ∧ RD σ0 τ0 n c nb p' m σ' τ' ∧ ENd nb σ' τ') ∨ (x = false ∧ WRg σ0 τ0 n p' σ' τ')) := by
    rintro C M ⟨σ', τ', p', x, h1, h2, h3⟩
    exact ⟨σ', τ', p', x, h1, by rw [h2]; rfl, h3⟩
  by_cases a1 : sgn n c p = 103
  · rw [if_pos (show nI (sgn n c p) = 103 from (eq_li (c := 103) (by decide) (by omega)).mpr a1)]
    by_cases b1' : sgn n c (p + 1) = 111
    · rw [if_pos (show sgn n c p = 103 ∧ sgn n c (p + 1) = 111 from ⟨a1, b1'⟩)]
      exact fin (rd_go ho hb1 hb8 hR a1 b1')
    · have hm8 : m = 8 := by
        rcases hs with q | q
        · exact q
        · exfalso
          exact q ⟨by omega, fun r => b1' r.2, fun r => by omega⟩
      have hl := sg_lt (n := n) (c := c) (q := p) (by omega)
      rw [if_neg (show ¬ (sgn n c p = 103 ∧ sgn n c (p + 1) = 111) from fun q => b1' q.2), if_neg (show ¬ (sgn n c p = 105 ∧ sgn n c (p + 1) = 102) from fun q => by omega), if_neg (show ¬ sgn n c p = 115 by omega), if_pos hm8, if_pos (show sgn n c p = 103 ∨ sgn n c p = 105 from Or.inl a1)]
      obtain ⟨k, k1, k1', k2, k3⟩ := c_w0 ho hR.2.1
      have hk : k = 1 := by
        rcases (show k = 0 ∨ k = 1 ∨ 2 ≤ k by omega) with e | e | e
        · subst e
          rcases k3 with ⟨e, -⟩ | ⟨-, d, -⟩
          · omega
          · exact absurd a1 d
        · exact e
        · exact absurd (k2 1 (by omega)) b1'
      subst hk
      rcases k3 with ⟨e, -⟩ | ⟨-, -, l⟩
      · omega
      · rw [l]
        exact ⟨_, _, p + 1, false, rfl, rfl, Or.inr ⟨rfl, (hR.at (by omega)).wr⟩⟩
  · rw [if_neg (fun q => a1 ((eq_li (c := 103) (by decide) (by omega)).mp q)), if_neg (show ¬ (sgn n c p = 103 ∧ sgn n c (p + 1) = 111) from fun q => a1 q.1)]
    by_cases a2 : sgn n c p = 105
    · rw [if_pos (show nI (sgn n c p) = 105 from (eq_li (c := 105) (by decide) (by omega)).mpr a2)]
      by_cases b2 : sgn n c (p + 1) = 102
      · rw [if_pos (show sgn n c p = 105 ∧ sgn n c (p + 1) = 102 from ⟨a2, b2⟩)]
        exact fin (rd_if ho hb1 hb8 hR a2 b2)
      · have hm8 : m = 8 := by
          rcases hs with q | q
          · exact q
          · exfalso
            exact q ⟨by omega, fun r => by omega, fun r => b2 r.2⟩
        have hl := sg_lt (n := n) (c := c) (q := p) (by omega)
        rw [if_neg (show ¬ (sgn n c p = 105 ∧ sgn n c (p + 1) = 102) from fun q => b2 q.2), if_neg (show ¬ sgn n c p = 115 by omega), if_pos hm8, if_pos (show sgn n c p = 103 ∨ sgn n c p = 105 from Or.inr a2)]
        obtain ⟨k, k1, k1', k2, k3⟩ := c_w1 ho hR.2.1
        have hk : k = 1 := by
          rcases (show k = 0 ∨ k = 1 ∨ 2 ≤ k by omega) with e | e | e
          · subst e
            rcases k3 with ⟨e, -⟩ | ⟨-, d, -⟩
            · omega
            · exact absurd a2 d
          · exact e
          · exact absurd (k2 1 (by omega)) b2
        subst hk
        rcases k3 with ⟨e, -⟩ | ⟨-, -, l⟩
        · omega
        · rw [l]
          exact ⟨_, _, p + 1, false, rfl, rfl, Or.inr ⟨rfl, (hR.at (by omega)).wr⟩⟩
    · rw [if_neg (fun q => a2 ((eq_li (c := 105) (by decide) (by omega)).mp q)), if_neg (show ¬ (sgn n c p = 105 ∧ sgn n c (p + 1) = 102) from fun q => a2 q.1)]
      by_cases a3 : sgn n c p = 115
      · rw [if_pos a3]
        exact fin (rd_stop ho hR a3)
      · rw [if_neg a3]
        obtain ⟨k, k1, k1', k2, k3⟩ := c_w2 ho hR.2.1
        have hk : k = 0 := by
          rcases Nat.eq_zero_or_pos k with e | e
          · exact e
          · exact absurd (k2 0 (by omega)) a3
        subst hk
        rcases k3 with ⟨e, -⟩ | ⟨-, -, l⟩
        · omega
        · rw [Nat.add_zero, aC_id hR.2.1.2.1] at l
          rw [l]
          by_cases hm8 : m = 8
          · rw [if_pos hm8, if_neg (fun q => q.elim a1 a2)]
            exact ⟨_, _, p, false, rfl, rfl, Or.inr ⟨rfl, hR.wr⟩⟩
          · rw [if_neg hm8]
            have hst : ¬ stI n c p := by
              rcases hs with q | q
              · exact absurd q hm8
              · exact q
            have hnv : ¬ (97 ≤ sgn n c p ∧ sgn n c p ≤ 108) := fun q => hst ⟨q, fun r => a1 r.1, fun r => a2 r.1⟩
            have em : mRow τ = some (1, wM τ) := by
              unfold mRow
              rw [m_var ho hR.2.2.1 hp hR.2.2.2.1, if_neg hnv]
              simp only [bn2, obs, un2]
              rw [MBd_eq, m_takesW wM_45 (by decide), wM_id wM_45]
              simp only [bn2, obs, un2]
              rw [if_neg (show ¬ wM τ 123 45 = 0 by rw [wM_45]; decide)]
              simp only [obs]
              rw [wM_45]
              rfl
            rw [em]
            exact ⟨_, _, p, false, rfl, rfl, Or.inr ⟨rfl, hR.wr⟩⟩
def PEn (σ4 : Mm) : Option (Int32 × Mm) := bn2 (fX8_parseEnding σ4) fun r5 σ6 => if r5 = 0 then some (0, σ6) else if (σ6 113 3) = (σ6 113 2) then some (1, σ6) else some (0, σ6)
def FO (σ0 τ0 : Mm) (n : Nat) (nb : Nat) (x : Bool) (σ τ : Mm) : Prop := RF σ0 τ0 σ τ ∧ ((x = true ∧ τ 123 45 = 0 ∧ τ 123 44 = nI n ∧ ∃ m, m ≤ 8 ∧ σ 115 4 = nI m ∧ τ 123 50 = nI m ∧ RW m σ τ ∧ ENd nb σ τ) ∨ (x = false ∧ ∃ p, p ≤ n ∧ σ 113 3 = nI p ∧ τ 123 44 = nI p ∧ (τ 123 45 = 1 ∨ (τ 123 45 = 0 ∧ p < n))))
theorem rd_loop {σ0 τ0 : Mm} {n nb : Nat} {c : Nat → Nat} {y : Int32} (ho : OKC n c) (hb1 : 1 ≤ nb) (hb8 : nb ≤ 8) : ∀ d m p σ τ, m + d = 8 → RD σ0 τ0 n c nb p m σ τ → ∀ nC nM, d + 1 ≤ nC → d + 3 ≤ nM → ∃ x σ' τ', bns (lp (fun rec s => gX8_parse_19 rec s.1 s.2) nC (σ, nI m)) (fun u => some u) PEn = some (bI x, σ') ∧ lp (fun rec s => gX10_read_36 y rec s.1 s.2) nM (τ, 0) = some τ' ∧ FO σ0 τ0 n nb x σ' τ' := by
  have hn := ho.1
  have ending : ∀ m p σ τ, m ≤ 8 → RD σ0 τ0 n c nb p m σ τ → (m = 8 ∨ ¬ stI n c p) → ∀ nM, 2 ≤ nM → ∃ x σ' τ', PEn σ = some (bI x, σ') ∧ lp (fun rec s => gX10_read_36 y rec s.1 s.2) nM (τ, 0) = some τ' ∧ FO σ0 τ0 n nb x σ' τ' := by
    intro m p σ τ hm hR hs nM hnM
    obtain ⟨σ', τ', p', x, e1, e2, e3⟩ := rd_ending ho hb1 hb8 hm hR hs
    obtain ⟨kM, rfl⟩ : ∃ kM, nM = kM + 2 := ⟨nM - 2, by omega⟩
    have eM : lp (fun rec s => gX10_read_36 y rec s.1 s.2) (kM + 2) (τ, 0) = some τ' := by
      show gX10_read_36 y (lp (fun rec s => gX10_read_36 y rec s.1 s.2) (kM + 1)) τ 0 = _
      unfold gX10_read_36
      rw [if_pos rfl, e2]
      show gX10_read_36 y (lp (fun rec s => gX10_read_36 y rec s.1 s.2) kM) τ' 1 = _
      unfold gX10_read_36
      rw [if_neg (by decide)]
    unfold PEn
    rw [e1]
    simp only [bn2, obs, un2]
    rcases e3 with ⟨rfl, h1, h2⟩ | ⟨rfl, h1⟩
    · rw [if_neg (show ¬ bI true = 0 by decide), h1.2.1.2.1, h1.2.1.1]
      have hp' := h1.2.1.2.2.2.1
      by_cases q : p' = n
      · rw [q, if_pos rfl]
        refine ⟨true, σ', τ', rfl, eM, h1.1, Or.inl ⟨rfl, h1.2.2.2.1, by rw [h1.2.2.1.2.1, q], m, hm, h1.2.2.2.2.1, h1.2.2.2.2.2.1, h1.2.2.2.2.2.2, h2⟩⟩
      · rw [if_neg (fun r => q ((nI_eq (by omega) (by omega)).mp r))]
        exact ⟨false, σ', τ', rfl, eM, h1.1, Or.inr ⟨rfl, p', hp', h1.2.1.2.1, h1.2.2.1.2.1, Or.inr ⟨h1.2.2.2.1, by omega⟩⟩⟩
    · rw [if_pos (show bI false = 0 from rfl)]
      exact ⟨false, σ', τ', rfl, eM, h1.1, Or.inr ⟨rfl, p', h1.2.1, h1.2.2.1, h1.2.2.2.1, Or.inl h1.2.2.2.2⟩⟩
  intro d
  induction d with
  | zero =>
    intro m p σ τ hm hR nC nM hnC hnM
    have hm8 : m = 8 := by omega
    subst hm8
    obtain ⟨kC, rfl⟩ : ∃ kC, nC = kC + 1 := ⟨nC - 1, by omega⟩
    have eC : lp (fun rec s => gX8_parse_19 rec s.1 s.2) (kC + 1) (σ, nI 8) = some (.inr σ) := by
      show gX8_parse_19 _ σ (nI 8) = _
      unfold gX8_parse_19
      rw [if_pos (show (8 : Int32) ≤ nI 8 by decide)]
    rw [eC]
    exact ending 8 p σ τ (Nat.le_refl _) hR (Or.inl rfl) nM (by omega)
  | succ d ih =>
    intro m p σ τ hm hR nC nM hnC hnM
    obtain ⟨kC, rfl⟩ : ∃ kC, nC = kC + 1 := ⟨nC - 1, by omega⟩
    obtain ⟨x, ex, hx⟩ := c_starts ho hR.2.1
    have e0 : lp (fun rec s => gX8_parse_19 rec s.1 s.2) (kC + 1) (σ, nI m) = if bI x = 0 then some (.inr σ) else bn2 (fX8_parseInstruction σ) fun r2 σ3 => if r2 = 0 then some (.inl (0, σ3)) else lp (fun rec s => gX8_parse_19 rec s.1 s.2) kC (σ3, nI (m + 1)) := by
      show gX8_parse_19 (lp (fun rec s => gX8_parse_19 rec s.1 s.2) kC) σ (nI m) = _
      unfold gX8_parse_19
      rw [if_neg (fun r => by have r2 : 8 ≤ m := (li_le (c := 8) (by decide) (by omega)).mp r; omega), ex]
      simp only [obs, bd, nI_1]
    rw [e0]
    cases x
    · rw [if_pos (show bI false = 0 from rfl)]
      exact ending m p σ τ (by omega) hR (Or.inr (fun q => by have := hx.mpr q; cases this)) nM (by omega)
    · have hst := hx.mp rfl
      rw [if_neg (show ¬ bI true = 0 by decide)]
      obtain ⟨σ1, τ1, p1, x1, f1, f2, f3⟩ := rd_row ho (show m < 8 by omega) hR hst.1
      have e1 : fX10_readOne τ = some (bI (!x1), τ1) := by
        rw [m_readOne ho hR.2.2.1 hR.2.1.2.2.2.1 hR.2.2.2.1 (by omega) hR.2.2.2.2.2.1, if_neg hst.2.1, if_neg hst.2.2, if_neg (by have := hst.1; omega), if_neg (by omega), f2]
      rw [f1]
      simp only [bn2, obs, un2]
      obtain ⟨kM, rfl⟩ : ∃ kM, nM = kM + 2 := ⟨nM - 2, by omega⟩
      have eM : lp (fun rec s => gX10_read_36 y rec s.1 s.2) (kM + 2) (τ, 0) = lp (fun rec s => gX10_read_36 y rec s.1 s.2) (kM + 1) (τ1, bI (!x1)) := by
        show gX10_read_36 y (lp (fun rec s => gX10_read_36 y rec s.1 s.2) (kM + 1)) τ 0 = _
        unfold gX10_read_36
        rw [if_pos rfl, e1]
        rfl
      rw [eM]
      rcases f3 with ⟨rfl, h1⟩ | ⟨rfl, h1⟩
      · rw [if_neg (show ¬ bI true = 0 by decide)]
        exact ih (m + 1) p1 σ1 τ1 (by omega) h1 kC (kM + 1) (by omega) (by omega)
      · rw [if_pos (show bI false = 0 from rfl)]
        refine ⟨false, σ1, τ1, rfl, ?_, h1.1, Or.inr ⟨rfl, p1, h1.2.1, h1.2.2.1, h1.2.2.2.1, Or.inl h1.2.2.2.2⟩⟩
        show gX10_read_36 y (lp (fun rec s => gX10_read_36 y rec s.1 s.2) kM) τ1 1 = _
        unfold gX10_read_36
        rw [if_neg (by decide)]
theorem c_begin {σ : Mm} {k : Nat} : ∃ σ', fX0_begin σ k = some σ' ∧ Fq [k] σ σ' ∧ σ' k 4 = 0 ∧ σ' k 5 = 2 ∧ σ' k 6 = 0 ∧ σ' k 7 = -1 ∧ σ' k 8 = -1 ∧ σ' k 9 = 1 := by
  unfold fX0_begin
  simp only [bd]
  rw [c_finish]
  simp only [obs]
  refine ⟨_, rfl, ((Fq_rf.up (by simp)).up (by simp)).up (by simp), ?_, ?_, ?_, ?_, ?_, ?_⟩
  · simp (disch := omega) only [upm_s, upd_a, if_neg, if_true]
  · simp (disch := omega) only [upm_s, upd_a, if_neg, if_true]
  · simp (disch := omega) only [upm_s, upd_a, if_neg, if_true]
    exact if_neg (by decide)
  · simp (disch := omega) only [upm_s, upd_a, if_neg, if_true]
  · simp (disch := omega) only [upm_s, upd_a, if_neg, if_true]
    exact if_neg (by decide)
  · simp (disch := omega) only [upm_s, upd_a, if_true]
theorem rd_parse {σ τ : Mm} {n nb : Nat} {c : Nat → Nat} {y : Int32} (ho : OKC n c) (hb1 : 1 ≤ nb) (hb8 : nb ≤ 8) (h2 : σ 113 2 = nI n) (hi : ∀ i, i < n → σ 114 i = nI (c i)) (hm : IM n c nb 0 τ) (h45 : τ 123 45 = 0) (h50 : τ 123 50 = 0) : ∃ x σs σ' τ', fX8_parse σ (nI nb) = some (bI x, σ') ∧ qX10_read_36 y FU (τ, 0) = some τ' ∧ Fq [113, 115] σ σs ∧ (∀ i, i ≠ 3 → i ≠ 4 → σs 113 i = σ 113 i) ∧ FO σs τ n nb x σ' τ' := by
  unfold fX8_parse
  simp only [bd]
  obtain ⟨σs, e1, f1, b4, -⟩ := c_begin (σ := upm (upm σ 113 (upd (σ 113) 4 (nI nb))) 113 (upd (upm σ 113 (upd (σ 113) 4 (nI nb)) 113) 3 0)) (k := 115)
  rw [e1]
  simp only [obs]
  have z113 : ∀ i, i ≠ 3 → i ≠ 4 → σs 113 i = σ 113 i := fun i a b => by rw [f1 113 (by simp), upm_s, upd_a, if_neg a, upm_s, upd_a, if_neg b]
  have hR : RD σs τ n c nb 0 0 σs τ := by
    refine ⟨⟨Fq_rf, Fq_rf, fun _ _ => rfl, fun _ _ _ _ _ _ _ _ => rfl⟩, ⟨?_, ?_, ?_, Nat.zero_le _, fun i hi' => ?_⟩, hm, h45, b4, h50, fun i hi' => by omega⟩
    · rw [z113 2 (by omega) (by omega)]; exact h2
    · rw [f1 113 (by simp), upm_s, upd_a, if_pos rfl]; rfl
    · rw [f1 113 (by simp), upm_s, upd_a, if_neg (by omega), upm_s, upd_a, if_pos rfl]
    · rw [f1 114 (by simp), upm_n (by omega), upm_n (by omega)]; exact hi i hi'
  obtain ⟨x, σ', τ', g1, g2, g3⟩ := rd_loop (σ0 := σs) (τ0 := τ) (y := y) ho hb1 hb8 8 0 0 σs τ rfl hR FU FU (by unfold FU; omega) (by unfold FU; omega)
  refine ⟨x, σs, σ', τ', g1, g2, fun j hj => ?_, z113, g3⟩
  have a1 : j ≠ 113 := fun e => by subst e; simp at hj
  have a2 : j ≠ 115 := fun e => by subst e; simp at hj
  rw [f1 j (fun q => a2 (List.mem_singleton.mp q)), upm_n a1, upm_n a1]
