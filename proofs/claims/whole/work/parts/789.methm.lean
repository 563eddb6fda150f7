/-! read -/
def s3c (σ : Mm) : Mm := upm σ 113 (upd (σ 113) 2 0)
def M5 (τ : Mm) : Mm := s3 (s3 (s3 (s3 τ 0 0) 44 0) 45 0) 50 0
theorem M5_n {τ : Mm} {j : Nat} (h : j ≠ 123) : M5 τ j = τ j := (s3_n h).trans ((s3_n h).trans ((s3_n h).trans (s3_n h)))
theorem M5_i {τ : Mm} {i : Nat} (h0 : i ≠ 0) (h1 : i ≠ 44) (h2 : i ≠ 45) (h3 : i ≠ 50) : M5 τ 123 i = τ 123 i := (s3_i h3).trans ((s3_i h2).trans ((s3_i h1).trans (s3_i h0)))
theorem M5_v {τ : Mm} : M5 τ 123 0 = 0 ∧ M5 τ 123 44 = 0 ∧ M5 τ 123 45 = 0 ∧ M5 τ 123 50 = 0 := ⟨(s3_i (by omega)).trans ((s3_i (by omega)).trans ((s3_i (by omega)).trans s3_s)), (s3_i (by omega)).trans ((s3_i (by omega)).trans s3_s), (s3_i (by omega)).trans s3_s, s3_s⟩
theorem m_rdl {ρ : Mm} {b m : Nat} (hb' : b < 8) (hm : m ≤ 8) (h0 : ρ 124 b = 0) (h50 : ρ 123 50 = nI m) : ∃ s, qX10_read_104 (nI b) FU (ρ, 0) = some s ∧ (∀ j, j ≠ 124 → (j < 130 ∨ 133 < j) → s j = ρ j) ∧ s 124 b = nI m ∧ (∀ c, c ≠ b → s 124 c = ρ 124 c) ∧ (∀ j i, 130 ≤ j → j ≤ 133 → (i < 8 * b ∨ 8 * b + 8 ≤ i) → s j i = ρ j i) ∧ ∀ i, i < m → s 130 (8 * b + i) = ρ 155 i ∧ s 131 (8 * b + i) = ρ 156 i ∧ s 132 (8 * b + i) = ρ 157 i ∧ s 133 (8 * b + i) = if ρ 155 i < 2 then -1 else ρ 158 i := by
  refine lp_inv2 (fun k s => (∀ j, j ≠ 124 → (j < 130 ∨ 133 < j) → s j = ρ j) ∧ s 124 b = nI k ∧ (∀ c, c ≠ b → s 124 c = ρ 124 c) ∧ (∀ j i, 130 ≤ j → j ≤ 133 → (i < 8 * b ∨ 8 * b + 8 ≤ i) → s j i = ρ j i) ∧ ∀ i, i < k → s 130 (8 * b + i) = ρ 155 i ∧ s 131 (8 * b + i) = ρ 156 i ∧ s 132 (8 * b + i) = ρ 157 i ∧ s 133 (8 * b + i) = if ρ 155 i < 2 then -1 else ρ 158 i) m _ ?_ ?_ ⟨fun _ _ _ => rfl, h0, fun _ _ => rfl, fun _ _ _ _ _ => rfl, fun i hi => by omega⟩ (fu (by omega))
  · rintro k s hk ⟨j1, j2, j3, j4, j5⟩
    have q50 : s 123 50 = nI m := by rw [j1 123 (by omega) (by omega)]; exact h50
    have q1 := j1 155 (by omega) (by omega)
    have q2 := j1 156 (by omega) (by omega)
    have q3 := j1 157 (by omega) (by omega)
    have q4 := j1 158 (by omega) (by omega)
    obtain ⟨v0, v1, v2, v3, v4⟩ := @LY_v s b k (ρ 155 k) (ρ 156 k) (ρ 157 k) (ρ 158 k)
    obtain ⟨o1, o2⟩ := @LY_o s b k (ρ 155 k) (ρ 156 k) (ρ 157 k) (ρ 158 k)
    refine ⟨LY s b k (ρ 155 k) (ρ 156 k) (ρ 157 k) (ρ 158 k), fun rec => ?_, fun j a c => (LY_n a c).trans (j1 j a c), ?_, fun c hc => ?_, fun j i a1 a2 a3 => ?_, fun i hi => ?_⟩
    · show gX10_read_104 (nI b) rec s (nI k) = _
      unfold gX10_read_104
      simp (disch := omega) only [obs, bd, jn, bn2, un2, bn3, un3, bns, nI_1, nI_clamp, gN, gN0, gN1, gN2, gN3, nI_leI, nI_ltI, nI_eq, li_le, li_lt, le_li, lt_li, eq_li, li_eq, li_mul, mul_li, add_li, nI_add, m_has, c_has, hI_0, bI_0, if_neg, q50, q1, q2, q3, q4, m_LY hb' (show k < 8 by omega) j2]
    · rw [v0 b, upd_a, if_pos rfl]
    · rw [v0 c, upd_a, if_neg hc]; exact j3 c hc
    · have := o2 (j - 124) i (by omega) (by omega) (by omega)
      rw [show 124 + (j - 124) = j by omega] at this
      rw [this]; exact j4 j i a1 a2 a3
    · rw [v1, v2, v3, v4, upd_a, upd_a, upd_a, upd_a]
      by_cases q : i = k
      · subst q
        simp only [if_true]
        exact ⟨trivial, trivial, trivial, trivial⟩
      · rw [if_neg (by omega), if_neg (by omega), if_neg (by omega), if_neg (by omega)]
        exact j5 i (by omega)
  · rintro s hs
    have q50 : s 123 50 = nI m := by rw [hs.1 123 (by omega) (by omega)]; exact h50
    refine ⟨s, fun rec => ?_, hs⟩
    show gX10_read_104 (nI b) rec s (nI m) = _
    unfold gX10_read_104
    simp (disch := omega) only [obs, bd, jn, bn2, un2, bn3, un3, bns, nI_1, nI_clamp, gN, gN0, gN1, gN2, gN3, nI_leI, nI_ltI, nI_eq, li_le, li_lt, le_li, lt_li, eq_li, li_eq, li_mul, mul_li, add_li, nI_add, m_has, c_has, hI_0, bI_0, if_pos, q50]
theorem bI_inj {x y : Bool} (h : bI x = bI y) : x = y := by
  cases x <;> cases y <;> first | rfl | exact absurd h (by decide)
theorem me_read {σ : Mm} (h : IV σ) (x : Int32) : METH (fun σ => fX9_read σ x) (fun τ => fX10_read τ x) [2] σ := by
  obtain ⟨P, hP⟩ := h
  have hw := hP.1
  have hn := hw.1
  rcases ix2 x (n := P_n P) (by omega) with hx | ⟨b, hb', rfl⟩
  · refine me_f0 hP 2 1 (by decide) (by decide) rfl ?_ (fun τ hτ => ?_)
    · show fX9_read σ x = _
      unfold fX9_read
      rw [c_rBn hw hP.2.1 hx, bnTe (by decide)]
    · show fX10_read τ x = _
      unfold fX10_read
      rw [bd_q, up0, m_iBn hw (iv_n0 hτ) hx]
      rfl
  · obtain ⟨n, c, hn80, r1, r2, r3⟩ := hP.2.2.2.2.2.2.2
    have ho : OKC n c := ⟨hn80, fun i hi => (r3 i hi).1⟩
    have par : ∀ τ : Mm, τ 123 43 = nI n → τ 123 1 = nI (P_n P) → τ 154 = σ 154 → ∃ x σs σ' τ', fX8_parse σ (nI (P_n P)) = some (bI x, σ') ∧ qX10_read_36 (nI b) FU (M5 τ, 0) = some τ' ∧ Fq [113, 115] σ σs ∧ (∀ i, i ≠ 3 → i ≠ 4 → σs 113 i = σ 113 i) ∧ FO σs (M5 τ) n (P_n P) x σ' τ' := fun τ h43 h1 h154 => rd_parse ho hn.1 hn.2 r1 (fun i hi => (r3 i hi).2.1) ⟨by rw [M5_i (by omega) (by omega) (by omega) (by omega)]; exact h43, M5_v.2.1, by rw [M5_i (by omega) (by omega) (by omega) (by omega)]; exact h1, fun i hi => by rw [M5_n (by omega), h154]; exact (r3 i hi).2.2⟩ M5_v.2.2.1 M5_v.2.2.2
    have eC : ∀ x σ', fX8_parse σ (nI (P_n P)) = some (bI x, σ') → fX9_read σ (nI b) = if x = false then some (0, (-100) - σ' 113 3, s3c σ') else (fX0_copyCode (s3c σ') (4 + 5 * b) 115).bind fun σ8 => some (0, pc0 σ8 115 4, pc0 σ8) := by
      intro x σ' e
      unfold fX9_read
      rw [c_rBy hw hP.2.1 hb', bnT0, hP.2.1.1, e]
      simp (disch := omega) only [bn2, obs, un2, bd, gN, nI_clamp, c_pc]
      cases x
      · rw [if_pos (by decide), if_pos rfl]
        show some (0, -100 - upd (σ' 113) 2 0 3, _) = _
        rw [upd_a, if_neg (by omega)]; rfl
      · rw [if_neg (by decide), if_neg (by decide)]; rfl
    have eM : ∀ τ τ', MP (s3 τ 0 0) 124 1 P → qX10_read_36 (nI b) FU (M5 τ, 0) = some τ' → fX10_read τ (nI b) = (let j8 : Int32 → Option (Int32 × Mm) := fun v7 => gb v7 (if s3 (s3 τ' 45 v7) 43 0 123 45 = 0 then (qX10_read_104 (nI b) FU (upm (s3 (s3 τ' 45 v7) 43 0) 124 (upd (s3 (s3 τ' 45 v7) 43 0 124) b 0), 0)).bind fun σ14 => (fX10_ends σ14 (nI b) (σ14 123 51) (σ14 123 52) (σ14 123 53) (σ14 123 54)).bind fun σ15 => some (s3 σ15 14 0 123 50, s3 σ15 14 0) else some ((-100) - s3 (s3 τ' 45 v7) 43 0 123 44, s3 (s3 τ' 45 v7) 43 0)); if τ' 123 45 = 0 then (if τ' 123 43 ≤ τ' 123 44 then j8 0 else j8 1) else j8 1) := by
      intro τ τ' hm e
      unfold fX10_read
      rw [bd_q, up0, m_iBy hw hm.1 hb']
      simp only [obs]
      rw [if_neg (by decide), bd_q, bd_q, bd_q]
      rw [show upm (upm (upm (s3 τ 0 0) 123 (upd (s3 τ 0 0 123) 44 0)) 123 (upd (upm (s3 τ 0 0) 123 (upd (s3 τ 0 0 123) 44 0) 123) 45 0)) 123 (upd (upm (upm (s3 τ 0 0) 123 (upd (s3 τ 0 0 123) 44 0)) 123 (upd (upm (s3 τ 0 0) 123 (upd (s3 τ 0 0 123) 44 0) 123) 45 0) 123) 50 0) = M5 τ from rfl, e]
      simp only [obs]
      simp (disch := omega) only [gN, nI_clamp, bd_q]
      rfl
    obtain ⟨x, σs, σ', τz, p1, pz, p3, p4, p5⟩ := par σ r2 hP.2.2.1.1 rfl
    have fS : ∀ j, j ≠ 113 → (j < 115 ∨ 119 < j) → σ' j = σ j := fun j a c => (p5.1.1 j (by simp; omega)).trans (p3 j (by simp; omega))
    cases x
    · refine me_ok (σ1 := s3c σ') (a := (-100) - σ' 113 3) ((eC false σ' p1).trans (if_pos rfl)) (fun τ hτ => ?_)
      have t : ∀ j, j ≠ 113 → (j < 115 ∨ 119 < j) → j ≠ 170 → τ j = σ j := fun j a c d => by rw [hτ j d, show s3c σ' j = σ' j from upm_n a, fS j a c]
      obtain ⟨x', σs', σ'', τ', k1, k2, k3, k4, k5⟩ := par τ (by rw [t 123 (by omega) (by omega) (by omega)]; exact r2) (by rw [t 123 (by omega) (by omega) (by omega)]; exact hP.2.2.1.1) (t 154 (by omega) (by omega) (by omega))
      obtain ⟨y1, y2⟩ := so_ne p1 k1
      subst y2
      have hm : MP (s3 τ 0 0) 124 1 P := s3_MP (MP_cg (by rw [t 123 (by omega) (by omega) (by omega)]) (fun j _ _ => t j (by omega) (by omega) (by omega)) hP.2.2.1) (by omega)
      have t43 : τ' 123 43 = nI n := by rw [k5.1.2.2.2 43 (by omega) (by omega) (by omega) (by omega) (by omega) (by omega) (by omega), M5_i (by omega) (by omega) (by omega) (by omega), t 123 (by omega) (by omega) (by omega)]; exact r2
      have tf : ∀ j, j ≠ 113 → (j < 115 ∨ 119 < j) → j ≠ 170 → j ≠ 123 → (j < 155 ∨ 158 < j) → s3 (s3 τ' 45 1) 43 0 j = σ j := fun j a c d e g => by rw [s3_n e, s3_n e, k5.1.2.1 j (by simp; omega), M5_n e, t j a c d]
      have ti : ∀ i, i ≠ 0 → i ≠ 43 → i ≠ 44 → i ≠ 45 → i < 50 → s3 (s3 τ' 45 1) 43 0 123 i = σ 123 i := fun i a0 a1 a2 a3 a4 => by rw [s3_i a1, s3_i a3, k5.1.2.2.2 i (by omega) (by omega) (by omega) (by omega) (by omega) (by omega) (by omega), M5_i (by omega) (by omega) (by omega) (by omega), t 123 (by omega) (by omega) (by omega)]
      refine ⟨s3 (s3 τ' 45 1) 43 0, ?_, ?_, ?_, P, ?_⟩
      · refine (eM τ τ' hm k2).trans ?_
        simp only []
        rcases k5.2 with ⟨w, -⟩ | ⟨-, p', hp', u1, u2, u3⟩
        · rw [w] at y1; exact absurd y1 (by decide)
        · have fin : gb (1 : Int32) (if s3 (s3 τ' 45 1) 43 0 123 45 = 0 then (qX10_read_104 (nI b) FU (upm (s3 (s3 τ' 45 1) 43 0) 124 (upd (s3 (s3 τ' 45 1) 43 0 124) b 0), 0)).bind fun σ14 => (fX10_ends σ14 (nI b) (σ14 123 51) (σ14 123 52) (σ14 123 53) (σ14 123 54)).bind fun σ15 => some (s3 σ15 14 0 123 50, s3 σ15 14 0) else some ((-100) - s3 (s3 τ' 45 1) 43 0 123 44, s3 (s3 τ' 45 1) 43 0)) = some ((-100) - σ' 113 3, s3 (s3 τ' 45 1) 43 0) := by
            unfold gb
            rw [if_pos (Or.inr rfl), if_neg (by rw [s3_i (by omega), s3_s]; decide), s3_i (by omega), s3_i (by omega), u2, u1]
          rcases u3 with w | ⟨w1, w2⟩
          · rw [w, if_neg (by decide)]; exact fin
          · rw [w1, if_pos rfl, t43, u2, if_neg (fun r => by have := (nI_leI (by omega) (by omega)).mp r; omega)]; exact fin
      · rw [s3_n (by omega), s3_n (by omega), k5.1.2.1 170 (by simp), M5_n (by omega)]
      · rw [s3_i (by omega), s3_i (by omega), k5.1.2.2.2 0 (by omega) (by omega) (by omega) (by omega) (by omega) (by omega) (by omega)]; exact M5_v.1
      · refine IV_rd (σ := fun j => if j = 113 then σ 113 else if j = 123 then (fun i => if i = 43 then σ 123 43 else s3 (s3 τ' 45 1) 43 0 123 i) else s3 (s3 τ' 45 1) 43 0 j) (IV_j hP (fun j hj h3 h13 => ?_) (fun i hi => ?_) ?_) (fun j h1 h2 h3 h4 h5 => ?_) (fun i h0 h43 => ?_) ⟨0, fun _ => 0, by omega, ?_, s3_s, fun i hi => by omega⟩
        · show (if _ then _ else if _ then _ else _) = _
          rw [if_neg h13, if_neg h3]
          unfold JK at hj
          exact tf j h13 (by omega) (by omega) h3 (by omega)
        · show (if _ then _ else if _ then _ else _ : Nat → Int32) i = _
          rw [if_neg (by omega), if_pos rfl]
          by_cases w : i = 43
          · subst w; exact if_pos rfl
          · exact (if_neg w).trans (ti i (by omega) (by omega) (by omega) (by omega) (by omega))
        · show (if _ then _ else if _ then _ else _ : Nat → Int32) 2 = _
          rw [if_pos rfl]
        · show _ = (if _ then _ else if _ then _ else _)
          rw [if_neg h1, if_neg h3]
        · show _ = (if _ then _ else if _ then _ else _ : Nat → Int32) i
          rw [if_neg (by omega), if_pos rfl]
          exact (if_neg h43).symm
        · rw [s3_n (by omega), s3_n (by omega), k5.1.2.1 113 (by simp), M5_n (by omega), hτ 113 (by omega)]
          show upm σ' 113 (upd (σ' 113) 2 0) 113 2 = _
          rw [upm_s, upd_a, if_pos rfl]; rfl
    · obtain ⟨σ8, e8, f8, h9, rB⟩ := @c_cpC (s3c σ') (4 + 5 * b) 115 (by omega)
      have e115 : pc0 σ8 115 4 = σ' 115 4 := by rw [pc0_n (by omega), f8 115 (by omega)]; exact congrFun (upm_n (by omega)) 4
      refine me_ok (σ1 := pc0 σ8) (a := σ' 115 4) ((eC true σ' p1).trans (by rw [if_neg (by decide), e8]; simp only [obs]; rw [e115])) (fun τ hτ => ?_)
      have c8 : ∀ j, j ≠ 113 → (j < 4 + 5 * b ∨ 4 + 5 * b + 4 < j) → (j < 115 ∨ 119 < j) → σ8 j = σ j := fun j a c d => by rw [f8 j c, show s3c σ' j = σ' j from upm_n a, fS j a d]
      have t : ∀ j, 44 ≤ j → j ≠ 113 → (j < 115 ∨ 119 < j) → j ≠ 170 → τ j = σ j := fun j a0 a c d => by rw [hτ j d, pc0_n (by omega), c8 j a (by omega) c]
      obtain ⟨x', σs', σ'', τ', k1, k2, k3, k4, k5⟩ := par τ (by rw [t 123 (by omega) (by omega) (by omega) (by omega)]; exact r2) (by rw [t 123 (by omega) (by omega) (by omega) (by omega)]; exact hP.2.2.1.1) (t 154 (by omega) (by omega) (by omega) (by omega))
      obtain ⟨y1, y2⟩ := so_ne p1 k1
      subst y2
      have hmt : MP τ 124 1 P := MP_cg (by rw [t 123 (by omega) (by omega) (by omega) (by omega)]) (fun j _ _ => t j (by omega) (by omega) (by omega) (by omega)) hP.2.2.1
      have hm : MP (s3 τ 0 0) 124 1 P := s3_MP hmt (by omega)
      have t43 : τ' 123 43 = nI n := by rw [k5.1.2.2.2 43 (by omega) (by omega) (by omega) (by omega) (by omega) (by omega) (by omega), M5_i (by omega) (by omega) (by omega) (by omega), t 123 (by omega) (by omega) (by omega) (by omega)]; exact r2
      rcases k5.2 with ⟨-, u45, u44, m, hm8, u4, u50, uW, uE⟩ | ⟨w, -⟩
      rotate_left
      · rw [w] at y1; exact absurd y1 (by decide)
      obtain ⟨e, v, f, s, d5, d6, d7, d8, g1, g2, g3, g4, he, hv, hf, hs⟩ := uE
      obtain ⟨ρ, hρ⟩ : ∃ ρ, ρ = upm (s3 (s3 τ' 45 0) 43 0) 124 (upd (s3 (s3 τ' 45 0) 43 0 124) b 0) := ⟨_, rfl⟩
      have ρn : ∀ j, j ≠ 123 → j ≠ 124 → ρ j = τ' j := fun j a c => by rw [hρ, upm_n c, s3_n a, s3_n a]
      have ρi : ∀ i, i ≠ 43 → i ≠ 45 → ρ 123 i = τ' 123 i := fun i a c => by rw [hρ, upm_n (by omega), s3_i a, s3_i c]
      have ρ124 : ∀ c, ρ 124 c = if c = b then 0 else τ' 124 c := fun c => by rw [hρ, upm_s, upd_a, s3_n (by omega), s3_n (by omega)]
      obtain ⟨w, q1, q2, q3, q4, q5, q6⟩ := m_rdl (ρ := ρ) (b := b) (m := m) (by omega) hm8 (by rw [ρ124, if_pos rfl]) (by rw [ρi 50 (by omega) (by omega)]; exact u50)
      have wi : ∀ i, i ≠ 43 → i ≠ 45 → w 123 i = τ' 123 i := fun i a c => by rw [q2 123 (by omega) (by omega), ρi i a c]
      obtain ⟨z1, z2, z3, z4⟩ := @EN_v w b (w 123 51) (w 123 52) (w 123 53) (w 123 54)
      have τn : ∀ j, j ≠ 123 → (j < 155 ∨ 158 < j) → τ' j = τ j := fun j a c => (k5.1.2.1 j (by simp; omega)).trans (M5_n a)
      have Wn : ∀ j, j < 123 ∨ j = 129 ∨ (133 < j ∧ (j < 155 ∨ 158 < j)) → s3 (EN w b (w 123 51) (w 123 52) (w 123 53) (w 123 54)) 14 0 j = τ j := fun j hj => by rw [s3_n (by omega), EN_n (by omega), q2 j (by omega) (by omega), ρn j (by omega) (by omega), τn j (by omega) (by omega)]
      have Wi : ∀ i, i ≠ 0 → i ≠ 14 → i ≠ 43 → i ≠ 44 → i ≠ 45 → i < 50 → s3 (EN w b (w 123 51) (w 123 52) (w 123 53) (w 123 54)) 14 0 123 i = τ 123 i := fun i a0 a14 a1 a2 a3 a4 => by rw [s3_i a14, EN_n (by omega), wi i a1 a3, k5.1.2.2.2 i (by omega) (by omega) (by omega) (by omega) (by omega) (by omega) (by omega), M5_i (by omega) (by omega) (by omega) (by omega)]
      have hW : ∀ i, i < m → ∃ (K T : Nat) (A B : Int32), σ' 116 i = nI K ∧ σ' 117 i = nI T ∧ σ' 118 i = A ∧ σ' 119 i = B ∧ τ' 155 i = nI K ∧ τ' 156 i = nI T ∧ τ' 157 i = A ∧ B = (if K < 2 then -1 else τ' 158 i) ∧ K ≤ 4 ∧ T < 12 ∧ (K ≠ 0 → ∃ x, x < 12 ∧ A = nI x) ∧ (2 ≤ K → ∃ x, x < 12 ∧ B = nI x) := uW
      have rows : ∀ i, i < m → σ' 116 i = nI (σ' 116 i).toNatClampNeg ∧ σ' 117 i = nI (σ' 117 i).toNatClampNeg ∧ τ' 155 i = σ' 116 i ∧ τ' 156 i = σ' 117 i ∧ τ' 157 i = σ' 118 i ∧ (if τ' 155 i < 2 then -1 else τ' 158 i) = σ' 119 i ∧ (σ' 116 i).toNatClampNeg ≤ 4 ∧ (σ' 117 i).toNatClampNeg < 12 ∧ ((σ' 116 i).toNatClampNeg ≠ 0 → σ' 118 i = nI (σ' 118 i).toNatClampNeg ∧ (σ' 118 i).toNatClampNeg < 12) ∧ (2 ≤ (σ' 116 i).toNatClampNeg → σ' 119 i = nI (σ' 119 i).toNatClampNeg ∧ (σ' 119 i).toNatClampNeg < 12) := by
        intro i hi
        obtain ⟨K, T, A, B, a1, a2, a3, a4, a5, a6, a7, a8, a9, a10, a11, a12⟩ := hW i hi
        rw [a1, a2, a3, a4, a5, a6, a7, nI_clamp (by omega), nI_clamp (by omega)]
        refine ⟨rfl, rfl, rfl, rfl, rfl, ?_, a9, a10, fun q => ?_, fun q => ?_⟩
        · rw [a8]
          by_cases q : K < 2
          · rw [if_pos q, if_pos (show nI K < 2 from (lt_li (c := 2) (by decide) (by omega)).mpr q)]
          · rw [if_neg q, if_neg (fun r => q ((lt_li (c := 2) (by decide) (by omega)).mp r))]
        · obtain ⟨y, y1, y2⟩ := a11 q
          rw [y2, nI_clamp (by omega)]; exact ⟨rfl, y1⟩
        · obtain ⟨y, y1, y2⟩ := a12 q
          rw [y2, nI_clamp (by omega)]; exact ⟨rfl, y1⟩
      have s115 : ∀ j, j ≠ 113 → s3c σ' j = σ' j := fun j a => upm_n a
      have hB : BC (s3c σ') 115 m e v f s (σ' 115 9).toUInt32.toNat (fun i => (σ' 116 i).toNatClampNeg) (fun i => (σ' 117 i).toNatClampNeg) (fun i => σ' 118 i) (fun i => σ' 119 i) := by
        refine ⟨by rw [s115 115 (by omega)]; exact u4, by rw [s115 115 (by omega)]; exact d5, by rw [s115 115 (by omega)]; exact d6, by rw [s115 115 (by omega)]; exact d7, by rw [s115 115 (by omega)]; exact d8, by rw [s115 115 (by omega), ← u2i, Int32.toInt32_toUInt32], fun i hi => ?_⟩
        rw [s115 _ (by omega), s115 _ (by omega), s115 _ (by omega), s115 _ (by omega)]
        exact ⟨(rows i hi).1, (rows i hi).2.1, rfl, rfl⟩
      have hB2 := rB _ _ _ _ _ _ (P_q P b) _ _ _ _ hm8 he hB
      have id9 : upm σ8 (4 + 5 * b) (upd (σ8 (4 + 5 * b)) 9 (nI (P_q P b))) = σ8 := by
        funext j
        by_cases q : j = 4 + 5 * b
        · subst q
          rw [upm_s]
          funext i
          rw [upd_a]
          by_cases q : i = 9
          · subst q
            rw [if_pos rfl, h9, s115 _ (by omega), fS _ (by omega) (by omega)]
            exact ((CP_if.mp hP.2.1).2.2 b (by omega)).2.2.2.2.2.1.symm
          · rw [if_neg q]
        · rw [upm_n q]
      rw [id9] at hB2
      obtain ⟨n0, n1, n2, n3, n4, n5, n6⟩ := (MP_if.mp hmt).2.2 b (by omega)
      have hWB : WB (P_n P) m e v f s (P_q P b) (fun i => (σ' 116 i).toNatClampNeg) (fun i => (σ' 117 i).toNatClampNeg) (fun i => σ' 118 i) (fun i => σ' 119 i) := ⟨hm8, he, hv, hf, hs, ((WP_if.mp hw).2 b (by omega)).2.2.2.2.2.1, fun i hi => ⟨(rows i hi).2.2.2.2.2.2.1, (rows i hi).2.2.2.2.2.2.2.1, (rows i hi).2.2.2.2.2.2.2.2.1, (rows i hi).2.2.2.2.2.2.2.2.2⟩⟩
      have hcp : CP σ8 1 4 (sB P b m e v f s (P_q P b) (fun i => (σ' 116 i).toNatClampNeg) (fun i => (σ' 117 i).toNatClampNeg) (fun i => σ' 118 i) (fun i => σ' 119 i)) := sB_C hP.2.1 (by rw [c8 1 (by omega) (by omega) (by omega)]) (c8 3 (by omega) (by omega) (by omega)) (fun j a c d => c8 j (by omega) (by omega) (by omega)) hB2
      have e0 : s3 (EN w b (w 123 51) (w 123 52) (w 123 53) (w 123 54)) 14 0 0 = pc0 σ8 0 := by rw [Wn 0 (by omega), hτ 0 (by omega)]
      refine ⟨s3 (EN w b (w 123 51) (w 123 52) (w 123 53) (w 123 54)) 14 0, ?_, Wn 170 (by omega), ?_, _, IV_mu hP (sB_W hw hWB) (CP_cg (fun j a c => ?_) hcp) (sB_M hw (by omega) hmt (Wi 1 (by omega) (by omega) (by omega) (by omega) (by omega) (by omega)) (Wn 134 (by omega)) (fun j c a1 a2 => ?_) (fun j i a1 a2 a3 => ?_) ⟨?_, ?_, fun q => ?_, fun q => ?_, fun q => ?_, ?_, fun i hi => ?_⟩) (by rw [e0]; exact pc0_12) (by rw [e0]; exact pc0_13) s3_s (fun j hj => ?_) ?_ ?_ ⟨0, fun _ => 0, by omega, ?_, ?_, fun i hi => by omega⟩⟩
      · refine (eM τ τ' hm k2).trans ?_
        simp only []
        rw [u45, if_pos rfl, t43, u44, if_pos ((nI_leI (by omega) (by omega)).mpr (by omega))]
        unfold gb
        rw [if_pos (Or.inl rfl), if_pos (by rw [s3_i (by omega), s3_s]), ← hρ, q1]
        simp only [obs]
        rw [m_EN (by omega)]
        simp only [obs]
        rw [s3_i (by omega), EN_n (by omega), wi 50 (by omega) (by omega), u50, u4]
      · rw [s3_i (by omega), EN_n (by omega), wi 0 (by omega) (by omega), k5.1.2.2.2 0 (by omega) (by omega) (by omega) (by omega) (by omega) (by omega) (by omega)]; exact M5_v.1
      · rw [Wn j (by omega), hτ j (by omega), pc0_n (by omega)]
      · rw [s3_n (by omega), EN_c a2]
        by_cases q : j = 0
        · subst q
          show w 124 c = τ 124 c
          rw [q4 c a2, ρ124, if_neg a2, τn 124 (by omega) (by omega)]
        · rw [q2 (124 + j) (by omega) (by omega), ρn _ (by omega) (by omega), τn _ (by omega) (by omega)]
      · rw [s3_n (by omega), EN_n (by omega), q5 (124 + j) i (by omega) (by omega) (by omega), ρn _ (by omega) (by omega), τn _ (by omega) (by omega)]
      · rw [s3_n (by omega), EN_n (by omega)]; exact q3
      · show s3 (EN w b (w 123 51) (w 123 52) (w 123 53) (w 123 54)) 14 0 125 b = _
        rw [s3_n (by omega), z1, wi 51 (by omega) (by omega)]; exact g1
      · show s3 (EN w b (w 123 51) (w 123 52) (w 123 53) (w 123 54)) 14 0 126 b = _
        rw [s3_n (by omega), z2, wi 52 (by omega) (by omega)]; exact g2 q
      · show s3 (EN w b (w 123 51) (w 123 52) (w 123 53) (w 123 54)) 14 0 127 b = _
        rw [s3_n (by omega), z3, wi 53 (by omega) (by omega)]; exact g3 q
      · show s3 (EN w b (w 123 51) (w 123 52) (w 123 53) (w 123 54)) 14 0 128 b = _
        rw [s3_n (by omega), z4, wi 54 (by omega) (by omega)]; exact g4 q
      · rw [Wn (124 + 5) (by omega)]; exact n5
      · obtain ⟨l1, l2, l3, l4⟩ := q6 i hi
        rw [ρn 155 (by omega) (by omega)] at l1 l4
        rw [ρn 156 (by omega) (by omega)] at l2
        rw [ρn 157 (by omega) (by omega)] at l3
        rw [ρn 158 (by omega) (by omega)] at l4
        obtain ⟨b1', b2, b3, b4, b5, b6, -⟩ := rows i hi
        rw [s3_n (by omega), s3_n (by omega), s3_n (by omega), s3_n (by omega), EN_n (by omega), EN_n (by omega), EN_n (by omega), EN_n (by omega)]
        exact ⟨l1.trans (b3.trans b1'), l2.trans (b4.trans b2), l3.trans b5, l4.trans b6⟩
      · rw [Wn j (by omega), t j (by omega) (by omega) (by omega) (by omega)]
      · rw [e0, pc0_11, c8 0 (by omega) (by omega) (by omega)]
      · rw [Wi 2 (by omega) (by omega) (by omega) (by omega) (by omega) (by omega), t 123 (by omega) (by omega) (by omega) (by omega)]
      · rw [Wn 113 (by omega), hτ 113 (by omega), pc0_n (by omega), f8 113 (by omega)]
        show upm σ' 113 (upd (σ' 113) 2 0) 113 2 = _
        rw [upm_s, upd_a, if_pos rfl]; rfl
      · rw [s3_i (by omega), EN_n (by omega), q2 123 (by omega) (by omega), hρ, upm_n (by omega)]
        exact s3_s
