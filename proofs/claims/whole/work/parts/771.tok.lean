/-! reading: signs -/
def OKC (n : Nat) (c : Nat → Nat) : Prop := n ≤ 80 ∧ ∀ i, i < n → c i < 65536
def IC (n : Nat) (c : Nat → Nat) (nb p : Nat) (σ : Mm) : Prop := σ 113 2 = nI n ∧ σ 113 3 = nI p ∧ σ 113 4 = nI nb ∧ p ≤ n ∧ ∀ i, i < n → σ 114 i = nI (c i)
def IM (n : Nat) (c : Nat → Nat) (nb p : Nat) (τ : Mm) : Prop := τ 123 43 = nI n ∧ τ 123 44 = nI p ∧ τ 123 1 = nI nb ∧ ∀ i, i < n → τ 154 i = nI (c i)
def aC (σ : Mm) (p : Nat) : Mm := upm σ 113 (upd (σ 113) 3 (nI p))
def aM (τ : Mm) (p : Nat) : Mm := upm τ 123 (upd (τ 123) 44 (nI p))
def wM (τ : Mm) : Mm := upm τ 123 (upd (τ 123) 45 1)
theorem aC_n {σ : Mm} {p j : Nat} (h : j ≠ 113) : aC σ p j = σ j := upm_n h
theorem aC_i {σ : Mm} {p i : Nat} (h : i ≠ 3) : aC σ p 113 i = σ 113 i := by unfold aC; rw [upm_s, upd_a, if_neg h]
theorem aC_3 {σ : Mm} {p : Nat} : aC σ p 113 3 = nI p := by unfold aC; rw [upm_s, upd_a, if_pos rfl]
theorem aM_n {τ : Mm} {p j : Nat} (h : j ≠ 123) : aM τ p j = τ j := upm_n h
theorem aM_i {τ : Mm} {p i : Nat} (h : i ≠ 44) : aM τ p 123 i = τ 123 i := by unfold aM; rw [upm_s, upd_a, if_neg h]
theorem aM_44 {τ : Mm} {p : Nat} : aM τ p 123 44 = nI p := by unfold aM; rw [upm_s, upd_a, if_pos rfl]
theorem wM_n {τ : Mm} {j : Nat} (h : j ≠ 123) : wM τ j = τ j := upm_n h
theorem wM_i {τ : Mm} {i : Nat} (h : i ≠ 45) : wM τ 123 i = τ 123 i := by unfold wM; rw [upm_s, upd_a, if_neg h]
theorem wM_45 {τ : Mm} : wM τ 123 45 = 1 := by unfold wM; rw [upm_s, upd_a, if_pos rfl]
theorem upd_id {f : Nat → Int32} {i : Nat} : upd f i (f i) = f := by
  funext j
  rw [upd_a]
  split
  · next q => rw [q]
  · rfl
theorem aC_id {σ : Mm} {p : Nat} (h : σ 113 3 = nI p) : aC σ p = σ := by unfold aC; rw [← h, upd_id, upm_id]
theorem aM_id {τ : Mm} {p : Nat} (h : τ 123 44 = nI p) : aM τ p = τ := by unfold aM; rw [← h, upd_id, upm_id]
theorem aC_aC {σ : Mm} {p q : Nat} : aC (aC σ p) q = aC σ q := by
  unfold aC
  rw [upm_s, upm_u]
  congr 1
  funext j
  rw [upd_a, upd_a, upd_a]
  split <;> rfl
theorem aM_aM {τ : Mm} {p q : Nat} : aM (aM τ p) q = aM τ q := by
  unfold aM
  rw [upm_s, upm_u]
  congr 1
  funext j
  rw [upd_a, upd_a, upd_a]
  split <;> rfl
theorem IC.at {n nb p q : Nat} {c : Nat → Nat} {σ : Mm} (h : IC n c nb p σ) (hq : q ≤ n) : IC n c nb q (aC σ q) := ⟨(aC_i (by omega)).trans h.1, aC_3, (aC_i (by omega)).trans h.2.2.1, hq, fun i hi => by rw [aC_n (by omega)]; exact h.2.2.2.2 i hi⟩
theorem IM.at {n nb p q : Nat} {c : Nat → Nat} {τ : Mm} (h : IM n c nb p τ) : IM n c nb q (aM τ q) := ⟨(aM_i (by omega)).trans h.1, aM_44, (aM_i (by omega)).trans h.2.2.1, fun i hi => by rw [aM_n (by omega)]; exact h.2.2.2 i hi⟩
theorem IC_up {n nb p k : Nat} {c : Nat → Nat} {σ : Mm} {f : Nat → Int32} (h : IC n c nb p σ) (hk : 115 ≤ k) : IC n c nb p (upm σ k f) := by
  unfold IC
  rw [upm_n (by omega), upm_n (by omega)]; exact h
theorem IM_up {n nb p k : Nat} {c : Nat → Nat} {τ : Mm} {f : Nat → Int32} (h : IM n c nb p τ) (hk : 155 ≤ k) : IM n c nb p (upm τ k f) := by
  unfold IM
  rw [upm_n (by omega), upm_n (by omega)]; exact h
theorem IM_u3 {n nb p i : Nat} {c : Nat → Nat} {τ : Mm} {x : Int32} (h : IM n c nb p τ) (hi : 45 ≤ i) : IM n c nb p (upm τ 123 (upd (τ 123) i x)) := by
  refine ⟨?_, ?_, ?_, fun j hj => ?_⟩
  · rw [upm_s, upd_a, if_neg (by omega)]; exact h.1
  · rw [upm_s, upd_a, if_neg (by omega)]; exact h.2.1
  · rw [upm_s, upd_a, if_neg (by omega)]; exact h.2.2.1
  · rw [upm_n (by omega)]; exact h.2.2.2 j hj
def sgn (n : Nat) (c : Nat → Nat) (q : Nat) : Nat := if q < n then c q else 0
theorem sgn_lt {n : Nat} {c : Nat → Nat} (h : OKC n c) (q : Nat) : sgn n c q < 65536 := by
  unfold sgn
  split
  · next a => exact h.2 q a
  · omega
theorem c_signAt {n nb p : Nat} {c : Nat → Nat} {σ : Mm} (ho : OKC n c) (h : IC n c nb p σ) {q : Nat} (hq : q < 1000) : fX8_signAt σ (nI q) = some (nI (sgn n c q)) := by
  obtain ⟨h1, -, -, -, h5⟩ := h
  have hn := ho.1
  unfold fX8_signAt sgn
  rw [h1]
  by_cases a : q < n
  · have e := h5 q a
    have hc := ho.2 q a
    rw [if_neg (fun r => by have := (nI_leI (by omega) (by omega)).mp r; omega), if_pos a]
    simp (disch := omega) only [obs, bd, jn, bn2, un2, bn3, un3, bns, nI_1, nI_clamp, gN, gN0, gN1, gN2, gN3, nI_leI, nI_ltI, nI_eq, li_le, li_lt, le_li, lt_li, eq_li, li_eq, li_mul, mul_li, add_li, nI_add, m_has, c_has, hI_0, bI_0, e]
    unfold gc
    rw [if_pos (nrcN hc)]
  · rw [if_pos (nI_le (by omega) (by omega)), if_neg a]
    rfl
theorem c_sign {n nb p : Nat} {c : Nat → Nat} {σ : Mm} (ho : OKC n c) (h : IC n c nb p σ) : fX8_signAt σ (σ 113 3) = some (nI (sgn n c p)) := by
  have hn := ho.1
  have hp := h.2.2.2.1
  rw [h.2.1]
  exact c_signAt ho h (by omega)
theorem c_take {n nb p : Nat} {c : Nat → Nat} {σ : Mm} (ho : OKC n c) (h : IC n c nb p σ) {x : Nat} (hx : 0 < x) (hx2 : x < 65536) : fX8_take σ (nI x) = if sgn n c p = x then some (1, aC σ (p + 1)) else some (0, σ) := by
  obtain ⟨h1, h2, -, h4, h5⟩ := h
  have hn := ho.1
  unfold fX8_take sgn
  rw [h1, h2]
  by_cases a : p < n
  · have e := h5 p a
    have hc := ho.2 p a
    rw [if_neg (fun r => by have := (nI_leI (by omega) (by omega)).mp r; omega), if_pos a]
    simp (disch := omega) only [obs, bd, jn, bn2, un2, bn3, un3, bns, nI_1, nI_clamp, gN, gN0, gN1, gN2, gN3, nI_leI, nI_ltI, nI_eq, li_le, li_lt, le_li, lt_li, eq_li, li_eq, li_mul, mul_li, add_li, nI_add, m_has, c_has, hI_0, bI_0, e]
    rfl
  · rw [if_pos (nI_le (by omega) (by omega)), if_neg a, if_neg (by omega)]
theorem c_takeVar {n nb p : Nat} {c : Nat → Nat} {σ : Mm} (ho : OKC n c) (h : IC n c nb p σ) : fX8_takeVariable σ = if 97 ≤ sgn n c p ∧ sgn n c p ≤ 108 then some (nI (sgn n c p - 97), aC σ (p + 1)) else some (-1, σ) := by
  have hs := sgn_lt ho p
  unfold fX8_takeVariable
  rw [c_sign ho h]
  simp (disch := omega) only [obs, bd, jn, bn2, un2, bn3, un3, bns, nI_1, nI_clamp, gN, gN0, gN1, gN2, gN3, nI_leI, nI_ltI, nI_eq, li_le, li_lt, le_li, lt_li, eq_li, li_eq, li_mul, mul_li, add_li, nI_add, m_has, c_has, hI_0, bI_0, h.2.1]
  by_cases a : 97 ≤ sgn n c p ∧ sgn n c p ≤ 108
  · rw [if_neg (by omega), if_pos a.2, if_pos a, sub_li (c := 97) a.1]
    rfl
  · rw [if_neg a]
    by_cases b : sgn n c p < 97
    · rw [if_pos b]
    · rw [if_neg b, if_neg (by omega)]
theorem c_isDig {σ : Mm} {x : Nat} (hx : x < 65536) : fX8_isDigit σ (nI x) = some (bI (decide (48 ≤ x ∧ x ≤ 57))) := by
  unfold fX8_isDigit
  simp (disch := omega) only [obs, bd, jn, bn2, un2, bn3, un3, bns, nI_1, nI_clamp, gN, gN0, gN1, gN2, gN3, nI_leI, nI_ltI, nI_eq, li_le, li_lt, le_li, lt_li, eq_li, li_eq, li_mul, mul_li, add_li, nI_add, m_has, c_has, hI_0, bI_0]
  by_cases a : x < 48
  · rw [if_pos a, decide_eq_false (by omega)]; rfl
  · rw [if_neg a]
    by_cases b : 57 < x
    · rw [if_pos b, decide_eq_false (by omega)]; rfl
    · rw [if_neg b, decide_eq_true (by omega)]; rfl
theorem c_takeBl {n nb p : Nat} {c : Nat → Nat} {σ : Mm} (ho : OKC n c) (hb1 : 1 ≤ nb) (hb8 : nb ≤ 8) (h : IC n c nb p σ) : fX8_takeBlock σ = if 48 ≤ sgn n c p ∧ sgn n c p < 48 + nb then some (nI (sgn n c p - 48), aC σ (p + 1)) else some (-1, σ) := by
  have hs := sgn_lt ho p
  unfold fX8_takeBlock
  rw [c_sign ho h]
  simp only [obs]
  rw [c_isDig hs]
  simp only [obs]
  by_cases a : 48 ≤ sgn n c p ∧ sgn n c p ≤ 57
  · rw [decide_eq_true a, if_neg (show ¬ bI true = 0 by decide), show nI (sgn n c p) - 48 = nI (sgn n c p - 48) from sub_li (c := 48) a.1, h.2.2.1]
    simp (disch := omega) only [nI_ltI, bd, h.2.1, nI_1]
    by_cases b : sgn n c p < 48 + nb
    · rw [if_pos (show sgn n c p - 48 < nb by omega), if_pos (show 48 ≤ sgn n c p ∧ sgn n c p < 48 + nb from ⟨a.1, b⟩)]
      rfl
    · rw [if_neg (show ¬ sgn n c p - 48 < nb by omega), if_neg (show ¬ (48 ≤ sgn n c p ∧ sgn n c p < 48 + nb) from fun q => b q.2)]
  · rw [decide_eq_false a, if_pos (show bI false = 0 from rfl), if_neg (by omega)]
/-! the model -/
theorem m_sign {n nb p : Nat} {c : Nat → Nat} {τ : Mm} (ho : OKC n c) (h : IM n c nb p τ) (hp : p ≤ n) (hw : τ 123 45 = 0) : fX10_sign τ = some (if p < n then nI (c p) else -1) := by
  obtain ⟨h1, h2, h3, h4⟩ := h
  have hn := ho.1
  unfold fX10_sign
  rw [if_pos hw, h1, h2]
  by_cases a : p < n
  · have e := h4 p a
    rw [if_neg (fun r => by have := (nI_leI (by omega) (by omega)).mp r; omega), if_pos a]
    simp (disch := omega) only [obs, bd, jn, bn2, un2, bn3, un3, bns, nI_1, nI_clamp, gN, gN0, gN1, gN2, gN3, nI_leI, nI_ltI, nI_eq, li_le, li_lt, le_li, lt_li, eq_li, li_eq, li_mul, mul_li, add_li, nI_add, m_has, c_has, hI_0, bI_0, e]
  · rw [if_pos (nI_le (by omega) (by omega)), if_neg a]
theorem m_signW {τ : Mm} (hw : τ 123 45 = 1) : fX10_sign τ = some (-1) := by
  unfold fX10_sign
  rw [if_neg (by rw [hw]; decide)]
theorem m_takesW {τ : Mm} {lo' hi : Int32} (hw : τ 123 45 = 1) (hl : (-1 : Int32) < lo') : fX10_takes τ lo' hi = some (0, wM τ) := by
  unfold fX10_takes fX10_in
  rw [m_signW hw]
  simp only [obs]
  rw [if_pos hl]
  simp only [obs, if_true]
  rfl
theorem m1_lt {x : Nat} (hx : x < 2 ^ 31) : (-1 : Int32) < nI x := by
  rw [lt_iff, nI_toInt hx]
  have : (-1 : Int32).toInt = -1 := by decide
  omega
theorem m_takes {n nb p : Nat} {c : Nat → Nat} {τ : Mm} (ho : OKC n c) (h : IM n c nb p τ) (hp : p ≤ n) (hw : τ 123 45 = 0) {x y : Nat} (hx : 0 < x) (hx2 : x < 65536) (hy : y < 65536) : fX10_takes τ (nI x) (nI y) = if x ≤ sgn n c p ∧ sgn n c p ≤ y then some (nI (sgn n c p - x), aM τ (p + 1)) else some (0, wM τ) := by
  have hn := ho.1
  unfold fX10_takes fX10_in sgn
  rw [m_sign ho h hp hw]
  simp only [obs]
  by_cases a : p < n
  · have hc := ho.2 p a
    rw [if_pos a, if_pos a]
    simp (disch := omega) only [obs, bd, jn, bn2, un2, bn3, un3, bns, nI_1, nI_clamp, gN, gN0, gN1, gN2, gN3, nI_leI, nI_ltI, nI_eq, li_le, li_lt, le_li, lt_li, eq_li, li_eq, li_mul, mul_li, add_li, nI_add, m_has, c_has, hI_0, bI_0, h.2.1]
    by_cases b : x ≤ c p ∧ c p ≤ y
    · rw [if_pos b, if_neg (show ¬ c p < x by omega), if_neg (show ¬ y < c p by omega)]
      simp only [obs]
      rw [if_neg (by decide), pk_sub b.1]
      rfl
    · rw [if_neg b]
      by_cases b2 : c p < x
      · rw [if_pos b2]
        simp only [obs, if_true]
        rfl
      · rw [if_neg b2, if_pos (show y < c p by omega)]
        simp only [obs, if_true]
        rfl
  · rw [if_neg a, if_neg a, if_pos (m1_lt (by omega)), if_neg (by omega)]
    simp only [obs, if_true]
    rfl
theorem m_tk1 {n nb p : Nat} {c : Nat → Nat} {τ : Mm} (ho : OKC n c) (h : IM n c nb p τ) (hp : p ≤ n) (hw : τ 123 45 = 0) {x : Nat} (hx : 0 < x) (hx2 : x < 65536) : fX10_takes τ (nI x) (nI x) = if sgn n c p = x then some (0, aM τ (p + 1)) else some (0, wM τ) := by
  rw [m_takes ho h hp hw hx hx2 hx2]
  by_cases a : sgn n c p = x
  · rw [if_pos (by omega), if_pos a, a, Nat.sub_self]; rfl
  · rw [if_neg (by omega), if_neg a]
theorem m_var {n nb p : Nat} {c : Nat → Nat} {τ : Mm} (ho : OKC n c) (h : IM n c nb p τ) (hp : p ≤ n) (hw : τ 123 45 = 0) : fX10_variable τ = if 97 ≤ sgn n c p ∧ sgn n c p ≤ 108 then some (nI (sgn n c p - 97), aM τ (p + 1)) else some (0, wM τ) := by
  unfold fX10_variable
  rw [show (97 : Int32) = nI 97 from rfl, show (108 : Int32) = nI 108 from rfl, m_takes ho h hp hw (by omega) (by omega) (by omega)]
  by_cases a : 97 ≤ sgn n c p ∧ sgn n c p ≤ 108
  · rw [if_pos a]; rfl
  · rw [if_neg a]; rfl
theorem m_varW {τ : Mm} (hw : τ 123 45 = 1) : fX10_variable τ = some (0, wM τ) := by
  unfold fX10_variable
  rw [m_takesW hw (by decide)]
  rfl
theorem m_bln {n nb p : Nat} {c : Nat → Nat} {τ : Mm} (ho : OKC n c) (h : IM n c nb p τ) (hp : p ≤ n) (hw : τ 123 45 = 0) : fX10_blank τ = if sgn n c p = 32 then some (0, aM τ (p + 1)) else some (0, wM τ) := by
  unfold fX10_blank
  rw [show (32 : Int32) = nI 32 from rfl, m_tk1 ho h hp hw (by omega) (by omega)]
  by_cases a : sgn n c p = 32
  · rw [if_pos a]; rfl
  · rw [if_neg a]; rfl
theorem m_blnW {τ : Mm} (hw : τ 123 45 = 1) : fX10_blank τ = some (0, wM τ) := by
  unfold fX10_blank
  rw [m_takesW hw (by decide)]
  rfl
theorem m_dig {n nb p : Nat} {c : Nat → Nat} {τ : Mm} (ho : OKC n c) (hb1 : 1 ≤ nb) (hb8 : nb ≤ 8) (h : IM n c nb p τ) (hp : p ≤ n) (hw : τ 123 45 = 0) : fX10_blockDigit τ = if 48 ≤ sgn n c p ∧ sgn n c p < 48 + nb then some (nI (sgn n c p - 48), aM τ (p + 1)) else some (0, wM τ) := by
  have e : (48 + nI nb) - 1 = nI (47 + nb) := by
    rw [show (48 : Int32) = nI 48 from rfl, nI_add, sub_li (c := 1) (show 1 ≤ 48 + nb by omega)]
    congr 1
    show 48 + nb - 1 = 47 + nb
    omega
  unfold fX10_blockDigit
  rw [h.2.2.1, e, show (48 : Int32) = nI 48 from rfl, m_takes ho h hp hw (by omega) (by omega) (by omega)]
  by_cases a : 48 ≤ sgn n c p ∧ sgn n c p < 48 + nb
  · rw [if_pos a, if_pos (by omega)]; rfl
  · rw [if_neg a, if_neg (by omega)]; rfl
theorem m_digW {τ : Mm} (hw : τ 123 45 = 1) : fX10_blockDigit τ = some (0, wM τ) := by
  unfold fX10_blockDigit
  rw [m_takesW hw (by decide)]
  rfl
theorem wM_id {τ : Mm} (hw : τ 123 45 = 1) : wM τ = τ := by unfold wM; rw [← hw, upd_id, upm_id]
