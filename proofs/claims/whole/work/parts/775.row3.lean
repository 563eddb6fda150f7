/-! reading: a whole row, both sides -/
def mRow (τ : Mm) : Option (Int32 × Mm) := bn2 (fX10_variable τ) fun r6 σ7 => (fX10_readRow σ7 r6).bind fun σ8 => gb (σ8 123 45) (some (σ8 123 45, σ8))
theorem rd_row {σ0 τ0 σ τ : Mm} {n nb p m : Nat} {c : Nat → Nat} (ho : OKC n c) (hm8 : m < 8) (hR : RD σ0 τ0 n c nb p m σ τ) (ha : 97 ≤ sgn n c p ∧ sgn n c p ≤ 108) : ∃ σ' τ' p' x, fX8_parseInstruction σ = some (bI x, σ') ∧ mRow τ = some (bI (!x), τ') ∧ ((x = true ∧ RD σ0 τ0 n c nb p' (m + 1) σ' τ') ∨ (x = false ∧ WRg σ0 τ0 n p' σ' τ')) := by
  obtain ⟨hf, hc, hm, hw, h4, h50, hr⟩ := hR
  have hp := hc.2.2.2.1
  have hlt := sg_lt (n := n) (c := c) (q := p) (by omega)
  have C1 : IC n c nb (p + 1) (aC σ (p + 1)) := hc.at (by omega)
  have I1 : IM n c nb (p + 1) (aM τ (p + 1)) := hm.at
  have w1 : aM τ (p + 1) 123 45 = 0 := (aM_i (by omega)).trans hw
  rw [CBd_eq]
  unfold mRow
  rw [c_takeVar ho hc, m_var ho hm hp hw, if_pos ha, if_pos ha]
  simp only [bn2, obs, un2]
  rw [MBd_eq, if_neg (nI_ne_m1 (by omega)), show (61 : Int32) = nI 61 from rfl, c_take ho C1 (by omega) (by omega), m_tk1 ho I1 (by omega) w1 (by omega) (by omega)]
  generalize ht' : sgn n c p - 97 = t
  have ht : t < 12 := by omega
  by_cases e : sgn n c (p + 1) = 61
  · have hlt2 := sg_lt (n := n) (c := c) (q := p + 1) (by omega)
    rw [if_pos e, if_pos e]
    simp only [bn2, obs, un2]
    rw [aC_aC, aM_aM, if_neg (by decide), if_pos (show aM τ (p + 1 + 1) 123 45 = 0 from (aM_i (by omega)).trans hw), show aM τ (p + 1 + 1) 123 50 = nI m from (aM_i (by omega)).trans h50]
    simp (disch := omega) only [gN, nI_clamp, bd]
    generalize hτ4 : upm (aM τ (p + 1 + 1)) 156 (upd (aM τ (p + 1 + 1) 156) m (nI t)) = τ4
    have C4 : IC n c nb (p + 2) (aC σ (p + 2)) := hc.at (by omega)
    have I4 : IM n c nb (p + 2) τ4 := by rw [← hτ4]; exact IM_up hm.at (by omega)
    have w4 : τ4 123 45 = 0 := by rw [← hτ4, upm_n (by omega), aM_i (by omega)]; exact hw
    have e4 : τ4 123 50 = nI m := by rw [← hτ4, upm_n (by omega), aM_i (by omega)]; exact h50
    have s4 : aC σ (p + 2) 115 4 = nI m := by rw [aC_n (by omega)]; exact h4
    have t4 : τ4 156 m = nI t := by rw [← hτ4, upm_s, upd_a, if_pos rfl]
    have F4 : RF σ0 τ0 (aC σ (p + 2)) τ4 := hτ4 ▸ (hf.aC.aM).M (by omega)
    have r4 : RW m (aC σ (p + 2)) τ4 := by
      intro i hi
      rw [← hτ4]
      simp (disch := omega) only [upm_n, upm_s, ne_eq, upd_a, if_neg, aC_n, aM_n]
      exact hr i hi
    have hs := sgn_lt ho (p + 2)
    have fin : ∀ {J : Option Mm} {σ' τ' : Mm} {x : Bool} {p' : Nat}, J = some τ' → ((x = true ∧ RD σ0 τ0 n c nb p' (m + 1) σ' τ') ∨ (x = false ∧ WRg σ0 τ0 n p' σ' τ')) → (J.bind fun σ8 => gb (σ8 123 45) (some (σ8 123 45, σ8))) = some (bI (!x), τ') := by
      intro J σ' τ' x p' hJ h
      rw [hJ]
      simp only [obs]
      rcases h with ⟨rfl, h⟩ | ⟨rfl, h⟩
      · rw [h.2.2.2.1]; rfl
      · rw [h.2.2.2.2]; rfl
    have num : ∀ {z : Bool} {q : Nat} {σ5 τ5 : Mm}, RF σ0 τ0 σ5 τ5 → IC n c nb q σ5 → IM n c nb q τ5 → τ5 123 45 = 0 → σ5 115 4 = nI m → τ5 123 50 = nI m → τ5 156 m = nI t → RW m σ5 τ5 → ∃ σ' τ' p' x, ((CNm σ5 (nI t) (bI z)).bind (un2 fun r13 σ14 => J8 σ14 r13)) = some (bI x, σ') ∧ ((fX10_readNumber τ5 (bI z)).bind fun σ38 => J7 σ38) = some τ' ∧ ((x = true ∧ RD σ0 τ0 n c nb p' (m + 1) σ' τ') ∨ (x = false ∧ WRg σ0 τ0 n p' σ' τ')) := by
      intro z q σ5 τ5 a1 a2 a3 a4 a5 a6 a7 a8
      obtain ⟨r, σ6, τ6, q', g1, g2, g3, g4⟩ := rd_num (z := z) ho hm8 ht a1 a2 a3 a4 a5 a6 a7 a8
      rw [g1, g2]
      simp only [obs, un2]
      rcases g4 with ⟨rfl, b2, b3, b4, b5, b6, b7⟩ | ⟨rfl, b2, b3, b4, b5⟩
      · exact rd_semi ho g3 b2 b3 b4 b5 b6 b7
      · obtain ⟨σ', τ', p', x, y1, y2, y3, y4⟩ := rd_bad g3 b2 b3 b4 b5
        exact ⟨σ', τ', p', x, y1, y2, Or.inr ⟨y3, y4⟩⟩
    unfold CBd MBd
    rw [show p + 1 + 1 = p + 2 from rfl, c_sign ho C4, m_sign ho I4 (by omega) w4]
    simp only [obs]
    by_cases k1 : sgn n c (p + 2) = 45
    · have hlt3 := sg_lt (n := n) (c := c) (q := p + 2) (by omega)
      have es : c (p + 2) = 45 := by
        have : sgn n c (p + 2) = c (p + 2) := if_pos hlt3
        omega
      rw [k1, if_pos (show nI 45 = 45 from rfl), if_pos hlt3, es, if_pos (show nI 45 = 45 from rfl), CNm_eq, show (45 : Int32) = nI 45 from rfl, c_take ho C4 (by omega) (by omega), if_pos k1]
      simp only [bn2, obs, un2]
      rw [aC_aC, I4.2.1, nI_1, show upm τ4 123 (upd (τ4 123) 44 (nI (p + 2 + 1))) = aM τ4 (p + 3) from rfl]
      obtain ⟨σ', τ', p', x, y1, y2, y3⟩ := num (z := true) (q := p + 3) (σ5 := aC σ (p + 3)) (τ5 := aM τ4 (p + 3)) (by
        have y := F4.aC (p := p + 3)
        rw [aC_aC] at y
        exact y.aM) (hc.at (by omega)) I4.at ((aM_i (by omega)).trans w4) (by rw [aC_n (by omega)]; exact h4) ((aM_i (by omega)).trans e4) (by rw [aM_n (by omega)]; exact t4) (fun i hi => by
        have := r4 i hi
        simp (disch := omega) only [aC_n, aM_n] at this ⊢
        exact this)
      exact ⟨σ', τ', p', x, y1, fin y2 y3, y3⟩
    · have k1' : ¬ nI (sgn n c (p + 2)) = 45 := fun x => k1 ((eq_li (c := 45) (by decide) (by omega)).mp x)
      have k2' : ¬ (if p + 2 < n then nI (c (p + 2)) else -1) = 45 := fun x => by
        by_cases b : p + 2 < n
        · rw [if_pos b] at x
          have h1 : sgn n c (p + 2) = c (p + 2) := if_pos b
          rw [← h1] at x
          exact k1' x
        · rw [if_neg b] at x; exact absurd x (by decide)
      rw [if_neg k1', if_neg k2', c_isDig hs]
      simp only [obs]
      by_cases k3 : 48 ≤ sgn n c (p + 2) ∧ sgn n c (p + 2) ≤ 57
      · have hlt3 := sg_lt (n := n) (c := c) (q := p + 2) (by omega)
        have h1 : sgn n c (p + 2) = c (p + 2) := if_pos hlt3
        rw [decide_eq_true k3, if_neg (show ¬ bI true = 0 by decide), if_pos hlt3, ← h1]
        unfold fX10_in
        rw [if_neg (fun r => by have r2 : sgn n c (p + 2) < 48 := (lt_li (c := 48) (by decide) (by omega)).mp r; omega), if_neg (fun r => by have r2 : 57 < sgn n c (p + 2) := (li_lt (c := 57) (by decide) (by omega)).mp r; omega)]
        simp only [obs]
        rw [if_neg (by decide), CNm_eq, show (45 : Int32) = nI 45 from rfl, c_take ho C4 (by omega) (by omega), if_neg k1]
        simp only [bn2, obs, un2]
        obtain ⟨σ', τ', p', x, y1, y2, y3⟩ := num (z := false) F4 C4 I4 w4 s4 e4 t4 r4
        exact ⟨σ', τ', p', x, y1, fin y2 y3, y3⟩
      · have ein : fX10_in τ4 (if p + 2 < n then nI (c (p + 2)) else -1) 48 57 = some 0 := by
          unfold fX10_in
          by_cases b : p + 2 < n
          · have h1 : sgn n c (p + 2) = c (p + 2) := if_pos b
            rw [if_pos b, ← h1]
            simp (disch := omega) only [obs, bd, jn, bn2, un2, bn3, un3, bns, nI_1, nI_clamp, gN, gN0, gN1, gN2, gN3, nI_leI, nI_ltI, nI_eq, li_le, li_lt, le_li, lt_li, eq_li, li_eq, li_mul, mul_li, add_li, nI_add, m_has, c_has, hI_0, bI_0]
            by_cases b2 : sgn n c (p + 2) < 48
            · rw [if_pos b2]
            · rw [if_neg b2, if_pos (by omega)]
          · rw [if_neg b, if_pos (by decide)]
        rw [decide_eq_false k3, if_pos (show bI false = 0 from rfl), ein]
        simp only [obs, if_true]
        obtain ⟨σ', τ', p', x, y1, y2, y3⟩ := rd_var ho hm8 ht F4 C4 I4 w4 s4 e4 t4 r4
        exact ⟨σ', τ', p', x, y1, fin y2 y3, y3⟩
  · rw [if_neg e, if_neg e]
    simp only [bn2, obs, un2, if_true]
    rw [if_neg (show ¬ wM (aM τ (p + 1)) 123 45 = 0 by rw [wM_45]; decide)]
    simp only [obs]
    rw [wM_45]
    exact ⟨_, _, p + 1, false, rfl, rfl, Or.inr ⟨rfl, (hf.aC.aM).wM, by omega, aC_3, by rw [wM_i (by omega)]; exact aM_44, wM_45⟩⟩
/-! one step of the model -/
theorem m_isNext {n nb p : Nat} {c : Nat → Nat} {τ : Mm} (ho : OKC n c) (h : IM n c nb p τ) (hp : p ≤ n) (hw : τ 123 45 = 0) {x : Nat} (hx : 0 < x) (hx2 : x < 65536) : fX10_isNext τ (nI x) = some (bI (decide (sgn n c (p + 1) = x))) := by
  have hn := ho.1
  unfold fX10_isNext sgn
  rw [if_pos hw, h.1, h.2.1, nI_1]
  by_cases a : p + 1 < n
  · have e := h.2.2.2 (p + 1) a
    have hc := ho.2 (p + 1) a
    rw [if_neg (fun r => by have := (nI_leI (by omega) (by omega)).mp r; omega), if_pos a]
    simp (disch := omega) only [obs, bd, jn, bn2, un2, bn3, un3, bns, nI_1, nI_clamp, gN, gN0, gN1, gN2, gN3, nI_leI, nI_ltI, nI_eq, li_le, li_lt, le_li, lt_li, eq_li, li_eq, li_mul, mul_li, add_li, nI_add, m_has, c_has, hI_0, bI_0, e]
    by_cases b : c (p + 1) = x
    · rw [if_pos b, decide_eq_true b]; rfl
    · rw [if_neg b, decide_eq_false b]; rfl
  · rw [if_pos (nI_le (by omega) (by omega)), if_neg a, decide_eq_false (by omega)]
    rfl
def R9 (σ : Mm) : Option (Int32 × Mm) := bd (upm σ 123 (upd (σ 123) 44 ((σ 123 44) + 1))) fun σ11 => bd (upm σ11 123 (upd (σ11 123) 45 1)) fun σ12 => some (1, σ12)
def R4 (σ : Mm) : Option (Int32 × Mm) := (fX10_sign σ).bind fun r5 => if r5 = 115 then (fX10_readStop σ).bind fun σ18 => some (1, σ18) else if (σ 123 50) = 8 then (fX10_sign σ).bind fun r9 => if r9 = 103 then R9 σ else (fX10_sign σ).bind fun r13 => if r13 = 105 then R9 σ else bd (upm σ 123 (upd (σ 123) 45 1)) fun σ14 => some (1, σ14) else mRow σ
def R2 (σ : Mm) : Option (Int32 × Mm) := (fX10_sign σ).bind fun r3 => if r3 = 105 then (fX10_isNext σ 102).bind fun r20 => if r20 = 0 then R4 σ else (fX10_readIf σ).bind fun σ21 => some (1, σ21) else R4 σ
theorem R_eq {σ : Mm} : fX10_readOne σ = (fX10_sign σ).bind fun r1 => if r1 = 103 then (fX10_isNext σ 111).bind fun r24 => if r24 = 0 then R2 σ else (fX10_readGo σ).bind fun σ25 => some (1, σ25) else R2 σ := rfl
theorem m_readOne {n nb p m : Nat} {c : Nat → Nat} {τ : Mm} (ho : OKC n c) (h : IM n c nb p τ) (hp : p ≤ n) (hw : τ 123 45 = 0) (hm : m ≤ 8) (h50 : τ 123 50 = nI m) : fX10_readOne τ = if sgn n c p = 103 ∧ sgn n c (p + 1) = 111 then (fX10_readGo τ).bind fun s => some (1, s) else if sgn n c p = 105 ∧ sgn n c (p + 1) = 102 then (fX10_readIf τ).bind fun s => some (1, s) else if sgn n c p = 115 then (fX10_readStop τ).bind fun s => some (1, s) else if m = 8 then (if sgn n c p = 103 ∨ sgn n c p = 105 then some (1, wM (aM τ (p + 1))) else some (1, wM τ)) else mRow τ := by
  obtain ⟨r, es, er⟩ := m_signS ho h hp hw
  have t1 : r = 103 ↔ sgn n c p = 103 := er 103 (by omega) (by omega)
  have t2 : r = 105 ↔ sgn n c p = 105 := er 105 (by omega) (by omega)
  have t3 : r = 115 ↔ sgn n c p = 115 := er 115 (by omega) (by omega)
  have n1 : fX10_isNext τ 111 = some (bI (decide (sgn n c (p + 1) = 111))) := m_isNext ho h hp hw (x := 111) (by omega) (by omega)
  have n2 : fX10_isNext τ 102 = some (bI (decide (sgn n c (p + 1) = 102))) := m_isNext ho h hp hw (x := 102) (by omega) (by omega)
  have e9 : R9 τ = some (1, wM (aM τ (p + 1))) := by
    unfold R9
    rw [h.2.1, nI_1]
    rfl
  have e4 : R4 τ = if sgn n c p = 115 then (fX10_readStop τ).bind fun s => some (1, s) else if m = 8 then (if sgn n c p = 103 ∨ sgn n c p = 105 then some (1, wM (aM τ (p + 1))) else some (1, wM τ)) else mRow τ := by
    unfold R4
    rw [es, e9, h50]
    simp only [obs]
    by_cases a3 : sgn n c p = 115
    · rw [if_pos (t3.mpr a3), if_pos a3]
    · rw [if_neg (fun q => a3 (t3.mp q)), if_neg a3]
      by_cases k : m = 8
      · rw [if_pos k, k, if_pos (show nI 8 = 8 from rfl)]
        by_cases a1 : sgn n c p = 103
        · rw [if_pos (t1.mpr a1), if_pos (Or.inl a1)]
        · rw [if_neg (fun q => a1 (t1.mp q))]
          by_cases a2 : sgn n c p = 105
          · rw [if_pos (t2.mpr a2), if_pos (Or.inr a2)]
          · rw [if_neg (fun q => a2 (t2.mp q)), if_neg (fun q => q.elim a1 a2)]
            rfl
      · rw [if_neg k, if_neg (fun q => k ((eq_li (c := 8) (by decide) (by omega)).mp q))]
  have e2 : R2 τ = if sgn n c p = 105 ∧ sgn n c (p + 1) = 102 then (fX10_readIf τ).bind fun s => some (1, s) else R4 τ := by
    unfold R2
    rw [es, n2]
    simp only [obs]
    by_cases a2 : sgn n c p = 105
    · rw [if_pos (t2.mpr a2)]
      by_cases b2 : sgn n c (p + 1) = 102
      · rw [decide_eq_true b2, if_neg (show ¬ bI true = 0 by decide), if_pos ⟨a2, b2⟩]
      · rw [decide_eq_false b2, if_pos (show bI false = 0 from rfl), if_neg (fun q => b2 q.2)]
    · rw [if_neg (fun q => a2 (t2.mp q)), if_neg (fun q => a2 q.1)]
  rw [R_eq, es, n1]
  simp only [obs]
  by_cases a1 : sgn n c p = 103
  · rw [if_pos (t1.mpr a1)]
    by_cases b1' : sgn n c (p + 1) = 111
    · rw [decide_eq_true b1', if_neg (show ¬ bI true = 0 by decide), if_pos ⟨a1, b1'⟩]
    · rw [decide_eq_false b1', if_pos (show bI false = 0 from rfl), if_neg (fun q => b1' q.2), e2, e4]
  · rw [if_neg (fun q => a1 (t1.mp q)), if_neg (fun q => a1 q.1), e2, e4]
