/-! append -/
def AD (σ : Mm) (k m : Nat) (x1 x2 x3 x4 : Int32) : Mm := upm (upm (upm (upm (upm σ (k + 1) (upd (σ (k + 1)) m x1)) (k + 2) (upd (σ (k + 2)) m x2)) (k + 3) (upd (σ (k + 3)) m x3)) (k + 4) (upd (σ (k + 4)) m (if x1 < 2 then -1 else x4))) k (upd (σ k) 4 (nI (m + 1)))
theorem c_AD {σ : Mm} {k m : Nat} (hm : m < 8) (h : σ k 4 = nI m) (x1 x2 x3 x4 : Int32) : fX0_add σ k x1 x2 x3 x4 = some (AD σ k m x1 x2 x3 x4) := by
  unfold fX0_add AD
  rw [h, if_neg (fun r => by have r2 : 8 ≤ m := (li_le (c := 8) (by decide) (by omega)).mp r; omega)]
  simp (disch := omega) only [obs, bd, jn, bn2, un2, bn3, un3, bns, nI_1, nI_clamp, gN, gN0, gN1, gN2, gN3, nI_leI, nI_ltI, nI_eq, li_le, li_lt, le_li, lt_li, eq_li, li_eq, li_mul, mul_li, add_li, nI_add, m_has, c_has, hI_0, bI_0, upm_n, ne_eq, h]
  by_cases q : x1 < 2
  · rw [if_pos q, if_pos q]
  · rw [if_neg q, if_neg q]
theorem AD_n {σ : Mm} {k m j : Nat} {x1 x2 x3 x4 : Int32} (h : j < k ∨ k + 4 < j) : AD σ k m x1 x2 x3 x4 j = σ j := by
  unfold AD
  rw [upm_n (by omega), upm_n (by omega), upm_n (by omega), upm_n (by omega), upm_n (by omega)]
theorem AD_v {σ : Mm} {k m : Nat} {x1 x2 x3 x4 : Int32} : (∀ i, AD σ k m x1 x2 x3 x4 k i = upd (σ k) 4 (nI (m + 1)) i) ∧ (∀ i, AD σ k m x1 x2 x3 x4 (k + 1) i = upd (σ (k + 1)) m x1 i) ∧ (∀ i, AD σ k m x1 x2 x3 x4 (k + 2) i = upd (σ (k + 2)) m x2 i) ∧ (∀ i, AD σ k m x1 x2 x3 x4 (k + 3) i = upd (σ (k + 3)) m x3 i) ∧ ∀ i, AD σ k m x1 x2 x3 x4 (k + 4) i = upd (σ (k + 4)) m (if x1 < 2 then -1 else x4) i := by
  unfold AD
  refine ⟨fun i => ?_, fun i => ?_, fun i => ?_, fun i => ?_, fun i => ?_⟩
  · rw [upm_s]
  · rw [upm_n (by omega), upm_n (by omega), upm_n (by omega), upm_n (by omega), upm_s]
  · rw [upm_n (by omega), upm_n (by omega), upm_n (by omega), upm_s]
  · rw [upm_n (by omega), upm_n (by omega), upm_s]
  · rw [upm_n (by omega), upm_s]
def LY (τ : Mm) (b m : Nat) (x1 x2 x3 x4 : Int32) : Mm := upm (upm (upm (upm (upm τ 130 (upd (τ 130) (8 * b + m) x1)) 131 (upd (τ 131) (8 * b + m) x2)) 132 (upd (τ 132) (8 * b + m) x3)) 133 (upd (τ 133) (8 * b + m) (if x1 < 2 then -1 else x4))) 124 (upd (τ 124) b (nI (m + 1)))
theorem m_LY {τ : Mm} {b m : Nat} (hb' : b < 8) (hm : m < 8) (h : τ 124 b = nI m) (x1 x2 x3 x4 : Int32) : fX10_lays τ (nI b) x1 x2 x3 x4 = some (LY τ b m x1 x2 x3 x4) := by
  unfold fX10_lays LY
  simp (disch := omega) only [obs, bd, jn, bn2, un2, bn3, un3, bns, nI_1, nI_clamp, gN, gN0, gN1, gN2, gN3, nI_leI, nI_ltI, nI_eq, li_le, li_lt, le_li, lt_li, eq_li, li_eq, li_mul, mul_li, add_li, nI_add, m_has, c_has, hI_0, bI_0, upm_n, ne_eq, h]
  by_cases q : x1 < 2
  · rw [if_neg (show ¬ 2 ≤ x1 from fun r => Int32.not_le.mpr q r), if_pos q]
  · rw [if_pos (Int32.not_lt.mp q), if_neg q]
theorem LY_n {τ : Mm} {b m j : Nat} {x1 x2 x3 x4 : Int32} (h : j ≠ 124) (h2 : j < 130 ∨ 133 < j) : LY τ b m x1 x2 x3 x4 j = τ j := by
  unfold LY
  rw [upm_n (by omega), upm_n (by omega), upm_n (by omega), upm_n (by omega), upm_n (by omega)]
theorem LY_v {τ : Mm} {b m : Nat} {x1 x2 x3 x4 : Int32} : (∀ i, LY τ b m x1 x2 x3 x4 124 i = upd (τ 124) b (nI (m + 1)) i) ∧ (∀ i, LY τ b m x1 x2 x3 x4 130 i = upd (τ 130) (8 * b + m) x1 i) ∧ (∀ i, LY τ b m x1 x2 x3 x4 131 i = upd (τ 131) (8 * b + m) x2 i) ∧ (∀ i, LY τ b m x1 x2 x3 x4 132 i = upd (τ 132) (8 * b + m) x3 i) ∧ ∀ i, LY τ b m x1 x2 x3 x4 133 i = upd (τ 133) (8 * b + m) (if x1 < 2 then -1 else x4) i := by
  unfold LY
  refine ⟨fun i => ?_, fun i => ?_, fun i => ?_, fun i => ?_, fun i => ?_⟩
  · rw [upm_s]
  · rw [upm_n (by omega), upm_n (by omega), upm_n (by omega), upm_n (by omega), upm_s]
  · rw [upm_n (by omega), upm_n (by omega), upm_n (by omega), upm_s]
  · rw [upm_n (by omega), upm_n (by omega), upm_s]
  · rw [upm_n (by omega), upm_s]
/-- the row that is laid -/
theorem LY_o {τ : Mm} {b m : Nat} {x1 x2 x3 x4 : Int32} : (∀ j c, j < 6 → c ≠ b → LY τ b m x1 x2 x3 x4 (124 + j) c = τ (124 + j) c) ∧ ∀ j i, 6 ≤ j → j < 10 → i ≠ 8 * b + m → LY τ b m x1 x2 x3 x4 (124 + j) i = τ (124 + j) i := by
  obtain ⟨v0, v1, v2, v3, v4⟩ := @LY_v τ b m x1 x2 x3 x4
  constructor
  · intro j c hj hc
    by_cases q : j = 0
    · subst q; exact (v0 c).trans ((upd_a ..).trans (if_neg hc))
    · rw [LY_n (by omega) (by omega)]
  · intro j i h6 h10 hi
    have : j = 6 ∨ j = 7 ∨ j = 8 ∨ j = 9 := by omega
    rcases this with r | r | r | r
    · subst r; exact (v1 i).trans ((upd_a ..).trans (if_neg hi))
    · subst r; exact (v2 i).trans ((upd_a ..).trans (if_neg hi))
    · subst r; exact (v3 i).trans ((upd_a ..).trans (if_neg hi))
    · subst r; exact (v4 i).trans ((upd_a ..).trans (if_neg hi))
/-- a good row -/
def VI (k t : Nat) (x1 x2 x3 x4 : Int32) : Prop := k ≤ 4 ∧ t < 12 ∧ x1 = nI k ∧ x2 = nI t ∧ (k ≠ 0 → ∃ a, a < 12 ∧ x3 = nI a) ∧ (2 ≤ k → ∃ a, a < 12 ∧ x4 = nI a)
theorem ap_ok {P : Pg} {σ : Mm} {b k t : Nat} {x2 x3 x4 x5 : Int32} (hP : IVp P σ) (hb' : b < P_n P) (hV : VI k t x2 x3 x4 x5) (hm8 : P_m P b < 8) (eC : fX9_append σ (nI b) x2 x3 x4 x5 = some (0, pc0 (AD σ (4 + 5 * b) (P_m P b) x2 x3 x4 x5) (4 + 5 * b) 4, pc0 (AD σ (4 + 5 * b) (P_m P b) x2 x3 x4 x5))) (eM : ∀ τ, MP (s3 τ 0 0) 124 1 P → fX10_append τ (nI b) x2 x3 x4 x5 = some (LY (s3 τ 0 0) b (P_m P b) x2 x3 x4 x5 124 b, s3 (LY (s3 τ 0 0) b (P_m P b) x2 x3 x4 x5) 14 0)) : METH (fun σ => fX9_append σ (nI b) x2 x3 x4 x5) (fun τ => fX10_append τ (nI b) x2 x3 x4 x5) [2, 1, 3] σ := by
  have hw := hP.1
  have hn := hw.1.2
  obtain ⟨c4, c5, c6, c7, c8, c9, c10⟩ := (CP_if.mp hP.2.1).2.2 b (by omega)
  obtain ⟨u1, u2, u3, u4, u5, u6, u7⟩ := (WP_if.mp hw).2 b (by omega)
  obtain ⟨hk, ht, e1, e2, e3, e4⟩ := hV
  have lt2 : (if x2 < 2 then (-1 : Int32) else x5) = if k < 2 then -1 else x5 := by
    rw [e1]
    by_cases q : k < 2
    · rw [if_pos q, if_pos (show nI k < 2 from (lt_li (c := 2) (by decide) (by omega)).mpr q)]
    · rw [if_neg q, if_neg (fun r => q ((lt_li (c := 2) (by decide) (by omega)).mp r))]
  have at4 : ∀ s : Mm, AD σ (4 + 5 * b) (P_m P b) x2 x3 x4 x5 (4 + 5 * b) 4 = nI (P_m P b + 1) := fun s => by rw [AD_v.1 4, upd_a, if_pos rfl]
  have ato : ∀ i, i ≠ 4 → AD σ (4 + 5 * b) (P_m P b) x2 x3 x4 x5 (4 + 5 * b) i = σ (4 + 5 * b) i := fun i hi => by rw [AD_v.1 i, upd_a, if_neg hi]
  refine me_mu hP (AD σ (4 + 5 * b) (P_m P b) x2 x3 x4 x5) (nI (P_m P b + 1)) (eC.trans (by rw [pc0_n (by omega), at4 σ])) (sB P b (P_m P b + 1) (P_e P b) (P_v P b) (P_f P b) (P_s P b) (P_q P b) (ud (P_k P b) (P_m P b) k) (ud (P_t P b) (P_m P b) t) (ud (P_a P b) (P_m P b) x4) (ud (P_b P b) (P_m P b) (if k < 2 then -1 else x5))) (sB_W hw ⟨by omega, u2, u3, u4, u5, u6, fun i hi => ?_⟩) (sB_C hP.2.1 (by rw [AD_n (by omega)]) (AD_n (by omega)) (fun j _ _ hj => AD_n (by omega)) ⟨at4 σ, (ato 5 (by omega)).trans c5, (ato 6 (by omega)).trans c6, (ato 7 (by omega)).trans c7, (ato 8 (by omega)).trans c8, (ato 9 (by omega)).trans c9, fun i hi => ?_⟩) (fun j hj => AD_n (by omega)) (fun τ hτ => ?_)
  · by_cases q : i = P_m P b
    · subst q
      simp only [ud_s]
      refine ⟨hk, ht, fun r => ?_, fun r => ?_⟩
      · obtain ⟨a, a1, a2⟩ := e3 r
        rw [a2, nI_clamp (by omega)]; exact ⟨rfl, a1⟩
      · obtain ⟨a, a1, a2⟩ := e4 r
        rw [if_neg (by omega), a2, nI_clamp (by omega)]; exact ⟨rfl, a1⟩
    · simp only [ud_n q]
      exact u7 i (by omega)
  · rw [AD_v.2.1 i, AD_v.2.2.1 i, AD_v.2.2.2.1 i, AD_v.2.2.2.2 i, upd_a, upd_a, upd_a, upd_a]
    by_cases q : i = P_m P b
    · subst q
      simp only [ud_s, if_true]
      exact ⟨e1, e2, trivial, lt2⟩
    · simp only [ud_n q]
      rw [if_neg q, if_neg q, if_neg q, if_neg q]
      exact c10 i (by omega)
  · have hm := mu_M hP hτ
    obtain ⟨m0, m1, m2, m3, m4, m5, m6⟩ := (MP_if.mp hm).2.2 b (by omega)
    obtain ⟨o1, o2⟩ := @LY_o (s3 τ 0 0) b (P_m P b) x2 x3 x4 x5
    have w4 : LY (s3 τ 0 0) b (P_m P b) x2 x3 x4 x5 124 b = nI (P_m P b + 1) := by rw [LY_v.1 b, upd_a, if_pos rfl]
    refine ⟨LY (s3 τ 0 0) b (P_m P b) x2 x3 x4 x5, (eM τ hm).trans (by rw [w4]), sB_M hw (by omega) hm (by rw [LY_n (by omega) (by omega)]) (LY_n (by omega) (by omega)) o1 (fun j i h6 h10 hi => o2 j i h6 h10 (by omega)) ⟨w4, ?_, ?_, ?_, ?_, ?_, fun i hi => ?_⟩, fun j hj => by rw [LY_n (by omega) (by omega), s3_n (by omega)], by rw [LY_n (by omega) (by omega)]; exact s3_s, fun i h0 h1 => by rw [LY_n (by omega) (by omega), s3_i h0]⟩
    · rw [LY_n (by omega) (by omega)]; exact m1
    · rw [LY_n (by omega) (by omega)]; exact m2
    · rw [LY_n (by omega) (by omega)]; exact m3
    · rw [LY_n (by omega) (by omega)]; exact m4
    · rw [LY_n (by omega) (by omega)]; exact m5
    · show LY (s3 τ 0 0) b (P_m P b) x2 x3 x4 x5 130 (8 * b + i) = _ ∧ LY (s3 τ 0 0) b (P_m P b) x2 x3 x4 x5 131 (8 * b + i) = _ ∧ LY (s3 τ 0 0) b (P_m P b) x2 x3 x4 x5 132 (8 * b + i) = _ ∧ LY (s3 τ 0 0) b (P_m P b) x2 x3 x4 x5 133 (8 * b + i) = _
      rw [LY_v.2.1, LY_v.2.2.1, LY_v.2.2.2.1, LY_v.2.2.2.2, upd_a, upd_a, upd_a, upd_a]
      by_cases q : i = P_m P b
      · subst q
        simp only [ud_s, if_true]
        exact ⟨e1, e2, trivial, lt2⟩
      · simp only [ud_n q]
        rw [if_neg (by omega), if_neg (by omega), if_neg (by omega), if_neg (by omega)]
        exact m6 i (by omega)
theorem c_iVy {σ : Mm} {j : Nat} (hj : j < 12) : fX9_isVariable σ (nI j) = some 1 := by
  unfold fX9_isVariable
  rw [if_neg (nI_ge0 (by omega)), if_neg (fun q => by have r : 12 ≤ j := (li_le (c := 12) (by decide) (by omega)).mp q; omega)]
theorem c_iVn {σ : Mm} {x : Int32} (hx : x < 0 ∨ nI 12 ≤ x) : fX9_isVariable σ x = some 0 := by
  unfold fX9_isVariable
  by_cases a : x < 0
  · rw [if_pos a]
  · rw [if_neg a, if_pos (by
      rcases hx with h | h
      · exact absurd h a
      · exact h)]
theorem me_append {σ : Mm} (h : IV σ) (x1 x2 x3 x4 x5 : Int32) : METH (fun σ => fX9_append σ x1 x2 x3 x4 x5) (fun τ => fX10_append τ x1 x2 x3 x4 x5) [2, 1, 3] σ := by
  obtain ⟨P, hP⟩ := h
  have hw := hP.1
  have hn := hw.1.2
  rcases ix2 x1 (n := P_n P) (by omega) with hx | ⟨b, hb', rfl⟩
  · refine me_f0 hP 2 1 (by decide) (by decide) rfl ?_ (fun τ hτ => ?_)
    · show fX9_append σ x1 x2 x3 x4 x5 = _
      unfold fX9_append
      rw [c_rBn hw hP.2.1 hx, bnTe (by decide)]
    · show fX10_append τ x1 x2 x3 x4 x5 = _
      unfold fX10_append
      simp only [bd]
      rw [up0, m_iBn hw (iv_n0 hτ) hx]
      rfl
  · have h8 := hw.2.1 b (by omega)
    have c4 := hP.2.1.2.2.1 b (by omega)
    have eC : fX9_append σ (nI b) x2 x3 x4 x5 = (fX9_isInstruction σ x2 x3 x4 x5).bind fun r3 => if r3 = 0 then some (1, 0, σ) else if nI (P_m P b) < 8 then (fX0_add σ (4 + 5 * b) x2 x3 x4 x5).bind fun σ6 => some (0, pc0 σ6 (4 + 5 * b) 4, pc0 σ6) else some (3, 0, σ) := by
      unfold fX9_append
      rw [c_rBy hw hP.2.1 hb', bnT0]
      simp (disch := omega) only [gN, nI_clamp, bd, c_pc, obs, c4]
    have eM : ∀ τ, MP (s3 τ 0 0) 124 1 P → fX10_append τ (nI b) x2 x3 x4 x5 = (let τ0 := s3 τ 0 0; let F2 : Option (Int32 × Mm) := some (0, s3 τ0 0 2); let tl : Option (Int32 × Mm) := if nI (P_m P b) = 8 then some (0, s3 τ0 0 3) else (fX10_lays τ0 (nI b) x2 x3 x4 x5).bind fun σ12 => some (s3 σ12 14 0 124 b, s3 σ12 14 0); let j9 : Option (Int32 × Mm) := if x2 < 2 then tl else (fX10_isVariable τ0 x5).bind fun r => if r = 0 then F2 else tl; (fX10_in τ0 x2 0 4).bind fun r3 => if r3 = 0 then F2 else (fX10_isVariable τ0 x3).bind fun r6 => if r6 = 0 then F2 else if x2 = 0 then ((fX10_in τ0 x4 (-999) 999).bind fun r27 => if r27 = 0 then F2 else j9) else (fX10_isVariable τ0 x4).bind fun r23 => if r23 = 0 then F2 else j9) := by
      intro τ hm
      have m3 : s3 τ 0 0 124 b = nI (P_m P b) := hm.2.2.1 b (by omega)
      unfold fX10_append
      simp only [bd]
      rw [up0, m_iBy hw hm.1 hb']
      simp only [obs]
      rw [if_neg (by decide)]
      simp (disch := omega) only [gN, nI_clamp, m3]
      rfl
    have hMI : ∀ τ, IVp P τ → MP (s3 τ 0 0) 124 1 P := fun τ hτ => (IV_s0 hτ).2.2.1
    have f2 : fX9_isInstruction σ x2 x3 x4 x5 = some 0 → (∀ τ, MP (s3 τ 0 0) 124 1 P → fX10_append τ (nI b) x2 x3 x4 x5 = some (0, s3 (s3 τ 0 0) 0 2)) → METH (fun σ => fX9_append σ (nI b) x2 x3 x4 x5) (fun τ => fX10_append τ (nI b) x2 x3 x4 x5) [2, 1, 3] σ := fun a c => me_f0 hP 1 2 (by decide) (by decide) rfl (eC.trans (by rw [a]; rfl)) (fun τ hτ => c τ (hMI τ hτ))
    have ok : ∀ k t, VI k t x2 x3 x4 x5 → fX9_isInstruction σ x2 x3 x4 x5 = some 1 → (∀ τ, MP (s3 τ 0 0) 124 1 P → fX10_append τ (nI b) x2 x3 x4 x5 = if nI (P_m P b) = 8 then some (0, s3 (s3 τ 0 0) 0 3) else (fX10_lays (s3 τ 0 0) (nI b) x2 x3 x4 x5).bind fun σ12 => some (s3 σ12 14 0 124 b, s3 σ12 14 0)) → METH (fun σ => fX9_append σ (nI b) x2 x3 x4 x5) (fun τ => fX10_append τ (nI b) x2 x3 x4 x5) [2, 1, 3] σ := by
      intro k t hV a c
      rw [a] at eC
      simp only [obs] at eC
      rw [if_neg (by decide)] at eC
      by_cases q : P_m P b = 8
      · refine me_f0 hP 3 3 (by decide) (by decide) rfl (eC.trans (if_neg ?_)) (fun τ hτ => (c τ (hMI τ hτ)).trans (if_pos (by rw [q]; rfl)))
        rw [q]; decide
      · refine ap_ok hP hb' hV (by omega) (eC.trans ?_) (fun τ hm => (c τ hm).trans ?_)
        · rw [if_pos (show nI (P_m P b) < 8 from (lt_li (c := 8) (by decide) (by omega)).mpr (show P_m P b < 8 by omega)), c_AD (by omega) c4]
          rfl
        · rw [if_neg (fun r => q ((eq_li (c := 8) (by decide) (by omega)).mp r)), m_LY (by omega) (by omega) (hm.2.2.1 b (by omega))]
          rfl
    rcases ix2 x2 (n := 5) (by omega) with hy | ⟨k, hk, rfl⟩
    · refine f2 ?_ (fun τ hm => (eM τ hm).trans ?_)
      · unfold fX9_isInstruction
        by_cases a : x2 < 0
        · rw [if_pos a]
        · rw [if_neg a, if_pos (by
            rcases hy with h | h
            · exact absurd h a
            · rw [lt_iff]
              have := (le_iff _ _).mp h
              rw [nI_toInt (by omega)] at this
              have e4 : (4 : Int32).toInt = 4 := by decide
              omega)]
      · simp only []
        rw [show fX10_in (s3 τ 0 0) x2 0 4 = _ from m_in (m := 4) (by omega) x2, if_pos hy]
        rfl
    · have i1 : ∀ τ, fX10_in τ (nI k) 0 4 = some 1 := fun τ => by rw [show fX10_in τ (nI k) 0 4 = _ from m_in (m := 4) (by omega) (nI k), if_neg (nx hk (by omega))]
      have n4 : ¬ 4 < nI k := fun r => by have : 4 < k := (li_lt (c := 4) (by decide) (by omega)).mp r; omega
      rcases ix2 x3 (n := 12) (by omega) with h3 | ⟨t, ht, rfl⟩
      · refine f2 ?_ (fun τ hm => (eM τ hm).trans ?_)
        · unfold fX9_isInstruction
          rw [if_neg (nI_ge0 (by omega)), if_neg n4, c_iVn h3]
          rfl
        · simp only []
          rw [i1, m_iVn h3]
          rfl
      · by_cases k0 : k = 0
        · subst k0
          have eI : fX9_isInstruction σ (nI 0) (nI t) x4 x5 = if x4 < -999 then some 0 else if 999 < x4 then some 0 else some 1 := by
            unfold fX9_isInstruction
            rw [if_neg (nI_ge0 (by omega)), if_neg n4, c_iVy ht]
            rfl
          have eJ : ∀ τ, MP (s3 τ 0 0) 124 1 P → fX10_append τ (nI b) (nI 0) (nI t) x4 x5 = (fX10_in (s3 τ 0 0) x4 (-999) 999).bind fun r27 => if r27 = 0 then some (0, s3 (s3 τ 0 0) 0 2) else if nI (P_m P b) = 8 then some (0, s3 (s3 τ 0 0) 0 3) else (fX10_lays (s3 τ 0 0) (nI b) (nI 0) (nI t) x4 x5).bind fun σ12 => some (s3 σ12 14 0 124 b, s3 σ12 14 0) := fun τ hm => (eM τ hm).trans (by
            simp only []
            rw [i1, m_iVy ht]
            rfl)
          have eK : ∀ τ, fX10_in τ x4 (-999) 999 = if x4 < -999 then some 0 else if 999 < x4 then some 0 else some 1 := fun τ => rfl
          by_cases a : x4 < -999
          · exact f2 (by rw [eI, if_pos a]) (fun τ hm => by rw [eJ τ hm, eK, if_pos a]; rfl)
          · by_cases a2 : 999 < x4
            · exact f2 (by rw [eI, if_neg a, if_pos a2]) (fun τ hm => by rw [eJ τ hm, eK, if_neg a, if_pos a2]; rfl)
            · exact ok 0 t ⟨by omega, ht, rfl, rfl, fun q => absurd rfl q, fun q => absurd q (by omega)⟩ (by rw [eI, if_neg a, if_neg a2]) (fun τ hm => by rw [eJ τ hm, eK, if_neg a, if_neg a2]; rfl)
        · have nk0 : ¬ nI k = 0 := fun r => k0 ((eq_li (c := 0) (by decide) (by omega)).mp r)
          rcases ix2 x4 (n := 12) (by omega) with h4 | ⟨a, ha, rfl⟩
          · refine f2 ?_ (fun τ hm => (eM τ hm).trans ?_)
            · unfold fX9_isInstruction
              rw [if_neg (nI_ge0 (by omega)), if_neg n4, c_iVy ht]
              simp only [obs]
              rw [if_neg (by decide), if_neg nk0, c_iVn h4]
              rfl
            · simp only []
              rw [i1, m_iVy ht]
              simp only [obs]
              rw [if_neg (by decide), if_neg (by decide), if_neg nk0, m_iVn h4]
              rfl
          · have eI : fX9_isInstruction σ (nI k) (nI t) (nI a) x5 = if nI k = 1 then some 1 else (fX9_isVariable σ x5).bind fun r3 => if r3 = 0 then some 0 else some 1 := by
              unfold fX9_isInstruction
              rw [if_neg (nI_ge0 (by omega)), if_neg n4, c_iVy ht]
              simp only [obs]
              rw [if_neg (by decide), if_neg nk0, c_iVy ha]
              rfl
            have eJ : ∀ τ, MP (s3 τ 0 0) 124 1 P → fX10_append τ (nI b) (nI k) (nI t) (nI a) x5 = if nI k < 2 then (if nI (P_m P b) = 8 then some (0, s3 (s3 τ 0 0) 0 3) else (fX10_lays (s3 τ 0 0) (nI b) (nI k) (nI t) (nI a) x5).bind fun σ12 => some (s3 σ12 14 0 124 b, s3 σ12 14 0)) else (fX10_isVariable (s3 τ 0 0) x5).bind fun r => if r = 0 then some (0, s3 (s3 τ 0 0) 0 2) else if nI (P_m P b) = 8 then some (0, s3 (s3 τ 0 0) 0 3) else (fX10_lays (s3 τ 0 0) (nI b) (nI k) (nI t) (nI a) x5).bind fun σ12 => some (s3 σ12 14 0 124 b, s3 σ12 14 0) := fun τ hm => (eM τ hm).trans (by
              simp only []
              rw [i1, m_iVy ht]
              simp only [obs]
              rw [if_neg (by decide), if_neg (by decide), if_neg nk0, m_iVy ha]
              rfl)
            by_cases k1 : k = 1
            · subst k1
              exact ok 1 t ⟨by omega, ht, rfl, rfl, fun _ => ⟨a, ha, rfl⟩, fun q => absurd q (by omega)⟩ (by rw [eI, if_pos (by decide)]) (fun τ hm => by rw [eJ τ hm, if_pos (by decide)])
            · have nk1 : ¬ nI k = 1 := fun r => k1 ((eq_li (c := 1) (by decide) (by omega)).mp r)
              have nk2 : ¬ nI k < 2 := fun r => by have : k < 2 := (lt_li (c := 2) (by decide) (by omega)).mp r; omega
              rcases ix2 x5 (n := 12) (by omega) with h5 | ⟨c, hc, rfl⟩
              · exact f2 (by rw [eI, if_neg nk1, c_iVn h5]; rfl) (fun τ hm => by rw [eJ τ hm, if_neg nk2, m_iVn h5]; rfl)
              · exact ok k t ⟨by omega, ht, rfl, rfl, fun _ => ⟨a, ha, rfl⟩, fun _ => ⟨c, hc, rfl⟩⟩ (by rw [eI, if_neg nk1, c_iVy hc]; rfl) (fun τ hm => by rw [eJ τ hm, if_neg nk2, m_iVy hc]; rfl)
