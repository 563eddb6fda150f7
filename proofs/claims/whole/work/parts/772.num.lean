/-! reading: numbers, rows -/
abbrev dg (n : Nat) (c : Nat → Nat) (q : Nat) : Prop := 48 ≤ sgn n c q ∧ sgn n c q ≤ 57
def vl (n : Nat) (c : Nat → Nat) (q : Nat) : Nat → Nat
  | 0 => 0
  | d + 1 => vl n c q d * 10 + (sgn n c (q + d) - 48)
theorem dg_lt {n q : Nat} {c : Nat → Nat} (h : dg n c q) : q < n := by
  rcases Nat.lt_or_ge q n with a | a
  · exact a
  · unfold dg sgn at h
    rw [if_neg (by omega)] at h
    omega
theorem sg_lt {n q : Nat} {c : Nat → Nat} (h : 0 < sgn n c q) : q < n := by
  rcases Nat.lt_or_ge q n with a | a
  · exact a
  · unfold sgn at h
    rw [if_neg (by omega)] at h
    omega
/-- how many digits are read -/
theorem dg_ex (n : Nat) (c : Nat → Nat) (q : Nat) : ∃ d, d ≤ 3 ∧ (∀ j, j < d → dg n c (q + j)) ∧ (d = 3 ∨ ¬ dg n c (q + d)) := by
  by_cases h0 : dg n c (q + 0)
  · by_cases h1 : dg n c (q + 1)
    · by_cases h2 : dg n c (q + 2)
      · exact ⟨3, by omega, fun j hj => by
          rcases (show j = 0 ∨ j = 1 ∨ j = 2 by omega) with e | e | e <;> subst e <;> assumption, Or.inl rfl⟩
      · exact ⟨2, by omega, fun j hj => by
          rcases (show j = 0 ∨ j = 1 by omega) with e | e <;> subst e <;> assumption, Or.inr h2⟩
    · exact ⟨1, by omega, fun j hj => by
        have e : j = 0 := by omega
        subst e; assumption, Or.inr h1⟩
  · exact ⟨0, by omega, fun j hj => by omega, Or.inr h0⟩
theorem c_num {n nb q d : Nat} {c : Nat → Nat} {σ : Mm} {y z : Int32} (ho : OKC n c) (h : IC n c nb q σ) (hd : d ≤ 3) (h1 : ∀ j, j < d → dg n c (q + j)) (h2 : d = 3 ∨ ¬ dg n c (q + d)) : qX8_parseConstant_12 y z FU (σ, 0, 0) = some (aC σ (q + d), nI (vl n c q d), nI d) := by
  have hq : ∀ k, k ≤ d → q + k ≤ n := fun k hk => by
    rcases Nat.eq_zero_or_pos k with e | e
    · subst e; exact h.2.2.2.1
    · have := dg_lt (h1 (k - 1) (by omega))
      omega
  refine lp_fr (fun k => (aC σ (q + k), nI (vl n c q k), nI k)) d (by show (aC σ q, _, _) = _; rw [aC_id h.2.1]; rfl) ?_ ?_ (fu (by omega))
  · intro k hk rec
    show gX8_parseConstant_12 y z rec (aC σ (q + k)) (nI (vl n c q k)) (nI k) = rec (aC σ (q + (k + 1)), nI (vl n c q k * 10 + (sgn n c (q + k) - 48)), nI (k + 1))
    have hi := h.at (hq k (by omega))
    have hg := h1 k hk
    have hs := sgn_lt ho (q + k)
    unfold gX8_parseConstant_12
    rw [if_neg (fun r => by have r2 : 3 ≤ k := (li_le (c := 3) (by decide) (by omega)).mp r; omega), c_sign ho hi]
    simp only [obs]
    rw [c_isDig hs, decide_eq_true hg]
    simp only [obs]
    rw [if_neg (by decide), sub_li (c := 48) hg.1, hi.2.1]
    simp (disch := omega) only [obs, bd, jn, bn2, un2, bn3, un3, bns, nI_1, nI_clamp, gN, gN0, gN1, gN2, gN3, nI_leI, nI_ltI, nI_eq, li_le, li_lt, le_li, lt_li, eq_li, li_eq, li_mul, mul_li, add_li, nI_add, m_has, c_has, hI_0, bI_0]
    rw [show upm (aC σ (q + k)) 113 (upd (aC σ (q + k) 113) 3 (nI (q + k + 1))) = aC σ (q + (k + 1)) from aC_aC]
  · intro rec
    show gX8_parseConstant_12 y z rec (aC σ (q + d)) (nI (vl n c q d)) (nI d) = _
    have hi := h.at (hq d (by omega))
    have hs := sgn_lt ho (q + d)
    unfold gX8_parseConstant_12
    rcases h2 with e | e
    · rw [if_pos ((li_le (c := 3) (by decide) (by omega)).mpr (show 3 ≤ d by omega))]
    · by_cases a : 3 ≤ d
      · rw [if_pos ((li_le (c := 3) (by decide) (by omega)).mpr a)]
      · rw [if_neg (fun r => a ((li_le (c := 3) (by decide) (by omega)).mp r)), c_sign ho hi]
        simp only [obs]
        rw [c_isDig hs, decide_eq_false e]
        simp only [obs]
        rw [if_pos (show bI false = 0 from rfl)]
theorem m_num {n nb q d : Nat} {c : Nat → Nat} {τ : Mm} {z : Int32} (ho : OKC n c) (h : IM n c nb q τ) (hw : τ 123 45 = 0) (hd : d < 3) (h1 : ∀ j, j < d + 1 → dg n c (q + j)) (h2 : d = 2 ∨ ¬ dg n c (q + (d + 1))) : qX10_readNumber_11 z FU (aM τ (q + 1), nI (vl n c q 1), 1) = some (aM τ (q + (d + 1)), nI (vl n c q (d + 1))) := by
  have hq : ∀ k, k ≤ d → q + (k + 1) ≤ n := fun k hk => by
    have := dg_lt (h1 k (by omega))
    omega
  refine lp_fr (fun k => (aM τ (q + (k + 1)), nI (vl n c q (k + 1)), nI (k + 1))) d rfl ?_ ?_ (fu (by omega))
  · intro k hk rec
    show gX10_readNumber_11 z rec (aM τ (q + (k + 1))) (nI (vl n c q (k + 1))) (nI (k + 1)) = rec (aM τ (q + (k + 1 + 1)), nI (vl n c q (k + 1) * 10 + (sgn n c (q + (k + 1)) - 48)), nI (k + 1 + 1))
    have hi : IM n c nb (q + (k + 1)) (aM τ (q + (k + 1))) := h.at
    have hw' : aM τ (q + (k + 1)) 123 45 = 0 := (aM_i (by omega)).trans hw
    have hg := h1 (k + 1) (by omega)
    have hlt := dg_lt hg
    have hs := sgn_lt ho (q + (k + 1))
    have es : c (q + (k + 1)) = sgn n c (q + (k + 1)) := (if_pos hlt).symm
    unfold gX10_readNumber_11
    rw [if_neg (fun r => by have r2 : 3 ≤ k + 1 := (li_le (c := 3) (by decide) (by omega)).mp r; omega), m_sign ho hi (by omega) hw', if_pos hlt, es]
    simp only [obs]
    unfold fX10_in
    rw [if_neg (fun r => by have r2 : sgn n c (q + (k + 1)) < 48 := (lt_li (c := 48) (by decide) (by omega)).mp r; have := hg.1; omega), if_neg (fun r => by have r2 : 57 < sgn n c (q + (k + 1)) := (li_lt (c := 57) (by decide) (by omega)).mp r; have := hg.2; omega)]
    simp only [obs]
    rw [if_neg (by decide), show (48 : Int32) = nI 48 from rfl, show (57 : Int32) = nI 57 from rfl, m_takes ho hi (by omega) hw' (by omega) (by omega) (by omega), if_pos hg]
    simp only [bn2, obs, un2, bd]
    rw [aM_aM, show (10 : Int32) * nI (vl n c q (k + 1)) + nI (sgn n c (q + (k + 1)) - 48) = nI (vl n c q (k + 1) * 10 + (sgn n c (q + (k + 1)) - 48)) from by rw [show (10 : Int32) = nI 10 from rfl, pk_mul, nI_add, Nat.mul_comm], nI_1]
    rfl
  · intro rec
    show gX10_readNumber_11 z rec (aM τ (q + (d + 1))) (nI (vl n c q (d + 1))) (nI (d + 1)) = _
    have hi : IM n c nb (q + (d + 1)) (aM τ (q + (d + 1))) := h.at
    have hw' : aM τ (q + (d + 1)) 123 45 = 0 := (aM_i (by omega)).trans hw
    have hs := sgn_lt ho (q + (d + 1))
    have hqd := hq d (by omega)
    unfold gX10_readNumber_11
    by_cases a : d = 2
    · rw [if_pos ((li_le (c := 3) (by decide) (by omega)).mpr (show 3 ≤ d + 1 by omega))]
    · have e : ¬ dg n c (q + (d + 1)) := by
        rcases h2 with e | e
        · exact absurd e a
        · exact e
      rw [if_neg (fun r => by have r2 : 3 ≤ d + 1 := (li_le (c := 3) (by decide) (by omega)).mp r; omega), m_sign ho hi (by omega) hw']
      simp only [obs]
      unfold fX10_in
      by_cases b : q + (d + 1) < n
      · have es : sgn n c (q + (d + 1)) = c (q + (d + 1)) := if_pos b
        rw [if_pos b]
        unfold dg at e
        rw [es] at e hs
        simp (disch := omega) only [obs, bd, jn, bn2, un2, bn3, un3, bns, nI_1, nI_clamp, gN, gN0, gN1, gN2, gN3, nI_leI, nI_ltI, nI_eq, li_le, li_lt, le_li, lt_li, eq_li, li_eq, li_mul, mul_li, add_li, nI_add, m_has, c_has, hI_0, bI_0]
        by_cases b1' : c (q + (d + 1)) < 48
        · rw [if_pos b1']; rfl
        · rw [if_neg b1', if_pos (show 57 < c (q + (d + 1)) by omega)]; rfl
      · rw [if_neg b, if_pos (by decide)]
        rfl
def RW (m : Nat) (σ τ : Mm) : Prop := ∀ i, i < m → ∃ (K T : Nat) (A B : Int32), σ 116 i = nI K ∧ σ 117 i = nI T ∧ σ 118 i = A ∧ σ 119 i = B ∧ τ 155 i = nI K ∧ τ 156 i = nI T ∧ τ 157 i = A ∧ B = (if K < 2 then -1 else τ 158 i) ∧ K ≤ 4 ∧ T < 12 ∧ (K ≠ 0 → ∃ x, x < 12 ∧ A = nI x) ∧ (2 ≤ K → ∃ x, x < 12 ∧ B = nI x)
/-- frames of reading -/
def RF (σ0 τ0 σ τ : Mm) : Prop := Fq [113, 115, 116, 117, 118, 119] σ0 σ ∧ Fq [123, 155, 156, 157, 158] τ0 τ ∧ (∀ i, i ≠ 3 → σ 113 i = σ0 113 i) ∧ ∀ i, i ≠ 44 → i ≠ 45 → i ≠ 50 → i ≠ 51 → i ≠ 52 → i ≠ 53 → i ≠ 54 → τ 123 i = τ0 123 i
theorem RF.C {σ0 τ0 σ τ : Mm} {k : Nat} {f : Nat → Int32} (h : RF σ0 τ0 σ τ) (hk : k = 115 ∨ k = 116 ∨ k = 117 ∨ k = 118 ∨ k = 119) : RF σ0 τ0 (upm σ k f) τ := ⟨h.1.up (by rcases hk with e | e | e | e | e <;> subst e <;> simp), h.2.1, fun i hi => by rw [upm_n (by omega)]; exact h.2.2.1 i hi, h.2.2.2⟩
theorem RF.M {σ0 τ0 σ τ : Mm} {k : Nat} {f : Nat → Int32} (h : RF σ0 τ0 σ τ) (hk : k = 155 ∨ k = 156 ∨ k = 157 ∨ k = 158) : RF σ0 τ0 σ (upm τ k f) := ⟨h.1, h.2.1.up (by rcases hk with e | e | e | e <;> subst e <;> simp), h.2.2.1, fun i a b c d e f' g => by rw [upm_n (by omega)]; exact h.2.2.2 i a b c d e f' g⟩
theorem RF.aC {σ0 τ0 σ τ : Mm} {p : Nat} (h : RF σ0 τ0 σ τ) : RF σ0 τ0 (aC σ p) τ := ⟨h.1.up (by simp), h.2.1, fun i hi => by rw [aC_i hi]; exact h.2.2.1 i hi, h.2.2.2⟩
theorem RF.u3 {σ0 τ0 σ τ : Mm} {i : Nat} {x : Int32} (h : RF σ0 τ0 σ τ) (hi : i = 44 ∨ i = 45 ∨ i = 50 ∨ i = 51 ∨ i = 52 ∨ i = 53 ∨ i = 54) : RF σ0 τ0 σ (upm τ 123 (upd (τ 123) i x)) := ⟨h.1, h.2.1.up (by simp), h.2.2.1, fun j a b c d e f' g => by rw [upm_s, upd_a, if_neg (by omega)]; exact h.2.2.2 j a b c d e f' g⟩
theorem RF.aM {σ0 τ0 σ τ : Mm} {p : Nat} (h : RF σ0 τ0 σ τ) : RF σ0 τ0 σ (aM τ p) := h.u3 (Or.inl rfl)
theorem RF.wM {σ0 τ0 σ τ : Mm} (h : RF σ0 τ0 σ τ) : RF σ0 τ0 σ (wM τ) := h.u3 (by omega)
theorem c_add {σ : Mm} {m : Nat} (hm : m < 8) (h : σ 115 4 = nI m) (x1 x2 x3 x4 : Int32) : fX0_add σ 115 x1 x2 x3 x4 = some (upm (upm (upm (upm (upm σ 116 (upd (σ 116) m x1)) 117 (upd (σ 117) m x2)) 118 (upd (σ 118) m x3)) 119 (upd (σ 119) m (if x1 < 2 then -1 else x4))) 115 (upd (σ 115) 4 (nI (m + 1)))) := by
  unfold fX0_add
  rw [h, if_neg (fun r => by have r2 : 8 ≤ m := (li_le (c := 8) (by decide) (by omega)).mp r; omega)]
  simp (disch := omega) only [obs, bd, jn, bn2, un2, bn3, un3, bns, nI_1, nI_clamp, gN, gN0, gN1, gN2, gN3, nI_leI, nI_ltI, nI_eq, li_le, li_lt, le_li, lt_li, eq_li, li_eq, li_mul, mul_li, add_li, nI_add, m_has, c_has, hI_0, bI_0, upm_n, ne_eq, h]
  by_cases q : x1 < 2
  · rw [if_pos q, if_pos q]
  · rw [if_neg q, if_neg q]
def J8 (σ6 : Mm) (v7 : Int32) : Option (Int32 × Mm) := if v7 = 0 then some (0, σ6) else bn2 (fX8_take σ6 59) fun r9 σ10 => if r9 = 0 then some (0, σ10) else some (1, σ10)
def J7 (σ6 : Mm) : Option Mm := bn2 (fX10_takes σ6 59 59) fun r8 σ9 => bd (upm σ9 123 (upd (σ9 123) 50 ((σ9 123 50) + 1))) fun σ10 => some σ10
def RD (σ0 τ0 : Mm) (n : Nat) (c : Nat → Nat) (nb p m : Nat) (σ τ : Mm) : Prop := RF σ0 τ0 σ τ ∧ IC n c nb p σ ∧ IM n c nb p τ ∧ τ 123 45 = 0 ∧ σ 115 4 = nI m ∧ τ 123 50 = nI m ∧ RW m σ τ
def WRg (σ0 τ0 : Mm) (n p : Nat) (σ τ : Mm) : Prop := RF σ0 τ0 σ τ ∧ p ≤ n ∧ σ 113 3 = nI p ∧ τ 123 44 = nI p ∧ τ 123 45 = 1
/-- behind a row's body: the semicolon -/
theorem rd_semi {σ0 τ0 σ τ : Mm} {n nb q m : Nat} {c : Nat → Nat} (ho : OKC n c) (hf : RF σ0 τ0 σ τ) (hc : IC n c nb q σ) (hm : IM n c nb q τ) (hw : τ 123 45 = 0) (h4 : σ 115 4 = nI (m + 1)) (h50 : τ 123 50 = nI m) (hr : RW (m + 1) σ τ) : ∃ σ' τ' p' x, J8 σ 1 = some (bI x, σ') ∧ J7 τ = some τ' ∧ ((x = true ∧ RD σ0 τ0 n c nb p' (m + 1) σ' τ') ∨ (x = false ∧ WRg σ0 τ0 n p' σ' τ')) := by
  have hq := hc.2.2.2.1
  unfold J8 J7
  rw [if_neg (by decide), show (59 : Int32) = nI 59 from rfl, c_take ho hc (by omega) (by omega), m_tk1 ho hm hq hw (by omega) (by omega)]
  by_cases a : sgn n c q = 59
  · have hlt := sg_lt (n := n) (c := c) (q := q) (by omega)
    rw [if_pos a, if_pos a]
    simp only [bn2, obs, un2, bd]
    rw [if_neg (by decide)]
    have F2 : RF σ0 τ0 (aC σ (q + 1)) (aM τ (q + 1)) := hf.aC.aM
    refine ⟨_, _, q + 1, true, rfl, rfl, Or.inl ⟨rfl, F2.u3 (by omega), hc.at (by omega), IM_u3 hm.at (by omega), ?_, ?_, ?_, fun i hi => ?_⟩⟩
    · rw [upm_s, upd_a, if_neg (by omega), aM_i (by omega)]; exact hw
    · rw [aC_n (by omega)]; exact h4
    · rw [upm_s, upd_a, if_pos rfl, aM_i (by omega), h50, nI_1]
    · simp (disch := omega) only [aC_n, upm_n, ne_eq, aM_n]
      exact hr i hi
  · rw [if_neg a, if_neg a]
    simp only [bn2, obs, un2, bd, if_true]
    have F2 : RF σ0 τ0 σ (wM τ) := hf.wM
    refine ⟨_, _, q, false, rfl, rfl, Or.inr ⟨rfl, F2.u3 (by omega), hq, hc.2.1, ?_, ?_⟩⟩
    · rw [upm_s, upd_a, if_neg (by omega), wM_i (by omega)]; exact hm.2.1
    · rw [upm_s, upd_a, if_neg (by omega), wM_45]
/-- a body that went wrong -/
theorem rd_bad {σ0 τ0 σ τ : Mm} {n q : Nat} (hf : RF σ0 τ0 σ τ) (hq : q ≤ n) (h3 : σ 113 3 = nI q) (h44 : τ 123 44 = nI q) (hw : τ 123 45 = 1) : ∃ σ' τ' p' x, J8 σ 0 = some (bI x, σ') ∧ J7 τ = some τ' ∧ x = false ∧ WRg σ0 τ0 n p' σ' τ' := by
  unfold J8 J7
  rw [if_pos rfl, m_takesW hw (by decide), wM_id hw]
  refine ⟨_, _, q, false, rfl, rfl, rfl, hf.u3 (by omega), hq, h3, ?_, ?_⟩
  · rw [upm_s, upd_a, if_neg (by omega)]; exact h44
  · rw [upm_s, upd_a, if_neg (by omega)]; exact hw
