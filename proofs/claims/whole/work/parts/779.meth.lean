/-! the calls, one by one: helpers -/
abbrev JK (j : Nat) : Prop := j = 170 ∨ (104 ≤ j ∧ j ≤ 112) ∨ (115 ≤ j ∧ j ≤ 120) ∨ (135 ≤ j ∧ j ≤ 138) ∨ (143 ≤ j ∧ j ≤ 148) ∨ j = 150 ∨ j = 152 ∨ j = 153 ∨ (155 ≤ j ∧ j ≤ 158)
theorem IV_j {P : Pg} {σ σ' : Mm} (h : IVp P σ) (hF : ∀ j, ¬ JK j → j ≠ 123 → j ≠ 113 → σ' j = σ j) (h3 : ∀ i, i = 1 ∨ i = 2 ∨ i = 14 ∨ i = 20 ∨ i = 21 ∨ i = 22 ∨ i = 43 → σ' 123 i = σ 123 i) (h113 : σ' 113 2 = σ 113 2) : IVp P σ' :=
  IV_tr h (fun j hj => hF j (by unfold JK; omega) (by omega) (by omega)) (by rw [hF 0 (by unfold JK; omega) (by omega) (by omega)]; exact ⟨rfl, rfl⟩) h3 h113 (fun v _ => by rw [hF 139 (by unfold JK; omega) (by omega) (by omega), hF 140 (by unfold JK; omega) (by omega) (by omega), hF 141 (by unfold JK; omega) (by omega) (by omega)]; exact ⟨rfl, rfl, rfl⟩) (Or.inl ⟨by rw [hF 0 (by unfold JK; omega) (by omega) (by omega)], fun j a b => hF j (by unfold JK; omega) (by omega) (by omega)⟩)
theorem IV_170 {P : Pg} {σ τ : Mm} (h : IVp P σ) (hq : ∀ j, j ≠ 170 → τ j = σ j) : IVp P τ := IV_j h (fun j a b c => hq j (fun e => a (Or.inl e))) (fun i _ => by rw [hq 123 (by omega)]) (by rw [hq 113 (by omega)])
theorem IV_s0 {P : Pg} {σ : Mm} {x : Int32} (h : IVp P σ) : IVp P (s3 σ 0 x) := IV_j h (fun j _ b _ => s3_n b) (fun i hi => s3_i (by omega)) (by rw [s3_n (by omega)])
theorem me_fail {f : Mm → Option Rx} {g : Mm → Option (Int32 × Mm)} {es : List Nat} {σ σ1 : Mm} {P : Pg} {e : Nat} {k : Int32} (h : IVp P σ1) (hf : f σ = some (e, 0, σ1)) (he : e ≠ 0) (hk : k ≠ 0) (hl : lwH es 1 (e, 0, σ1) = some (k, σ1)) (hg : ∀ τ, IVp P τ → ∃ τ1, g τ = some (0, s3 τ1 0 k) ∧ IVp P τ1 ∧ τ1 170 = τ 170) : METH f g es σ := by
  refine ⟨e, 0, σ1, k, hf, Or.inr ⟨he, hk, hl⟩, fun τ hτ => ?_⟩
  obtain ⟨τ1, g1, g2, g3⟩ := hg τ (IV_170 h hτ)
  exact ⟨0, s3 τ1 0 k, g1, by rw [s3_n (by omega)]; exact g3, s3_s, fun q => absurd q he, P, IV_s0 g2⟩
theorem me_ok {f : Mm → Option Rx} {g : Mm → Option (Int32 × Mm)} {es : List Nat} {σ σ1 : Mm} {a : Int32} (hf : f σ = some (0, a, σ1)) (hg : ∀ τ, (∀ j, j ≠ 170 → τ j = σ1 j) → ∃ τ1, g τ = some (a, τ1) ∧ τ1 170 = τ 170 ∧ τ1 123 0 = 0 ∧ IV τ1) : METH f g es σ := by
  refine ⟨0, a, σ1, 0, hf, Or.inl ⟨rfl, rfl⟩, fun τ hτ => ?_⟩
  obtain ⟨τ1, g1, g2, g3, g4⟩ := hg τ hτ
  exact ⟨a, τ1, g1, g2, g3, fun _ => rfl, g4⟩
theorem me_okI {f : Mm → Option Rx} {g : Mm → Option (Int32 × Mm)} {es : List Nat} {σ σ1 : Mm} {P : Pg} {a : Int32} (h : IVp P σ1) (hf : f σ = some (0, a, σ1)) (hg : ∀ τ, IVp P τ → ∃ τ1, g τ = some (a, τ1) ∧ τ1 170 = τ 170 ∧ τ1 123 0 = 0 ∧ IVp P τ1) : METH f g es σ := me_ok hf (fun τ hτ => by
  obtain ⟨τ1, g1, g2, g3, g4⟩ := hg τ (IV_170 h hτ)
  exact ⟨τ1, g1, g2, g3, P, g4⟩)
/-- the class has looked -/
theorem iv_an {P : Pg} {σ : Mm} (h : IVp P σ) : ∃ σ', fX9_analyse σ = some σ' ∧ IVp P σ' ∧ AN σ' P ∧ σ' 0 13 = 1 ∧ (∀ j, 97 ≤ j → σ' j = σ j) ∧ ∀ i, i ≠ 13 → σ' 0 i = σ 0 i := by
  obtain ⟨s, e, f, i, t, a⟩ := c_analyse h.1 h.2.1 h.2.2.2.1
  have hk : ∀ j, j ≠ 0 → (j < 88 ∨ 96 < j) → s j = σ j := fun j h0 hj => f j (fun q => by simp at q; omega)
  refine ⟨s, e, IV_tr h (fun j hj => hk j (by omega) (by omega)) ⟨i 11 (by omega), i 12 (by omega)⟩ (fun k _ => by rw [hk 123 (by omega) (by omega)]) (by rw [hk 113 (by omega) (by omega)]) (fun v _ => by rw [hk 139 (by omega) (by omega), hk 140 (by omega) (by omega), hk 141 (by omega) (by omega)]; exact ⟨rfl, rfl, rfl⟩) (Or.inr ⟨t, a⟩), a, t, fun j hj => hk j (by omega) (by omega), i⟩
/-! indexes -/
theorem c_rBy {σ : Mm} {P : Pg} (hw : WP P) (hc : CP σ 1 4 P) {j : Nat} (hj : j < P_n P) : fX9_requireBlock σ (nI j) = some (0, 0, σ) := by
  have hn := hw.1.2
  unfold fX9_requireBlock
  rw [hc.1, if_neg (nI_ge0 (by omega)), if_pos (nI_lt hj (by omega))]
theorem c_rBn {σ : Mm} {P : Pg} (hw : WP P) (hc : CP σ 1 4 P) {x : Int32} (hx : x < 0 ∨ nI (P_n P) ≤ x) : fX9_requireBlock σ x = some (2, 0, σ) := by
  unfold fX9_requireBlock
  rw [hc.1]
  by_cases a : x < 0
  · rw [if_pos a]
  · rw [if_neg a, if_neg (fun q => by
      rcases hx with h | h
      · exact a h
      · exact Int32.not_le.mpr q h)]
theorem m_iBy {τ : Mm} {P : Pg} (hw : WP P) (h1 : τ 123 1 = nI (P_n P)) {j : Nat} (hj : j < P_n P) : fX10_isBlock τ (nI j) = some 1 := by
  have hn := hw.1.2
  unfold fX10_isBlock fX10_in
  rw [h1, show nI (P_n P) - 1 = nI (P_n P - 1) from sub_li (c := 1) hw.1.1, if_neg (nI_ge0 (by omega)), if_neg (nI_nlt (by omega) (by omega))]
  rfl
theorem m_iBn {τ : Mm} {P : Pg} (hw : WP P) (h1 : τ 123 1 = nI (P_n P)) {x : Int32} (hx : x < 0 ∨ nI (P_n P) ≤ x) : fX10_isBlock τ x = some 0 := by
  have hn := hw.1.2
  unfold fX10_isBlock fX10_in
  rw [h1, show nI (P_n P) - 1 = nI (P_n P - 1) from sub_li (c := 1) hw.1.1]
  by_cases a : x < 0
  · rw [if_pos a]; rfl
  · have h : nI (P_n P) ≤ x := by
      rcases hx with h | h
      · exact absurd h a
      · exact h
    rw [if_neg a, if_pos (by
      rw [lt_iff]
      have := (le_iff _ _).mp h
      rw [nI_toInt (by omega)] at this ⊢
      have := hw.1.1
      omega)]
    rfl
theorem c_rVy {σ : Mm} {j : Nat} (hj : j < 12) : fX9_requireVariable σ (nI j) = some (0, 0, σ) := by
  unfold fX9_requireVariable fX9_isVariable
  rw [if_neg (nI_ge0 (by omega)), if_neg (fun q => by have r : 12 ≤ j := (li_le (c := 12) (by decide) (by omega)).mp q; omega)]
  rfl
theorem c_rVn {σ : Mm} {x : Int32} (hx : x < 0 ∨ nI 12 ≤ x) : fX9_requireVariable σ x = some (1, 0, σ) := by
  unfold fX9_requireVariable fX9_isVariable
  by_cases a : x < 0
  · rw [if_pos a]; rfl
  · rw [if_neg a, if_pos (by
      rcases hx with h | h
      · exact absurd h a
      · exact h)]
    rfl
theorem m_iVy {τ : Mm} {j : Nat} (hj : j < 12) : fX10_isVariable τ (nI j) = some 1 := by
  unfold fX10_isVariable fX10_in
  rw [if_neg (nI_ge0 (by omega)), if_neg (fun q => by have r : 11 < j := (li_lt (c := 11) (by decide) (by omega)).mp q; omega)]
  rfl
theorem m_iVn {τ : Mm} {x : Int32} (hx : x < 0 ∨ nI 12 ≤ x) : fX10_isVariable τ x = some 0 := by
  unfold fX10_isVariable fX10_in
  by_cases a : x < 0
  · rw [if_pos a]; rfl
  · have h : nI 12 ≤ x := by
      rcases hx with h | h
      · exact absurd h a
      · exact h
    rw [if_neg a, if_pos (by
      rw [lt_iff]
      have := (le_iff _ _).mp h
      rw [nI_toInt (by omega)] at this
      have e : (11 : Int32).toInt = 11 := by decide
      omega)]
    rfl
/-- 0 .. m -/
theorem m_in {τ : Mm} {m : Nat} (hm : m < 2 ^ 30) (x : Int32) : fX10_in τ x 0 (nI m) = some (if x < 0 ∨ nI (m + 1) ≤ x then 0 else 1) := by
  unfold fX10_in
  by_cases a : x < 0
  · rw [if_pos a, if_pos (Or.inl a)]
  · rw [if_neg a]
    have e : nI m < x ↔ nI (m + 1) ≤ x := by
      rw [lt_iff, le_iff, nI_toInt (by omega), nI_toInt (by omega)]
      omega
    by_cases b : nI m < x
    · rw [if_pos b, if_pos (Or.inr (e.mp b))]
    · rw [if_neg b, if_neg (fun q => q.elim a (fun r => b (e.mpr r)))]
theorem bnT0 {a : Int32} {σ : Mm} {k : Int32 → Mm → Option Rx} : bnT (some (0, a, σ)) k = k a σ := rfl
theorem bnTe {e : Nat} {σ : Mm} {k : Int32 → Mm → Option Rx} (he : e ≠ 0) : bnT (some (e, 0, σ)) k = some (e, 0, σ) := by
  show (if e = 0 then k 0 σ else some (e, 0, σ)) = _
  rw [if_neg he]
theorem s3_MP {τ : Mm} {P : Pg} {i : Nat} {x : Int32} (hm : MP τ 124 1 P) (hi : i ≠ 1) : MP (s3 τ i x) 124 1 P := MP_cg (s3_i (Ne.symm hi)) (fun j _ _ => s3_n (by omega)) hm
theorem m_fails {τ : Mm} {k : Int32} : fX10_fails τ k = some (0, s3 τ 0 k) := rfl
/-! instruction, block -/
theorem me_instruction {σ : Mm} (h : IV σ) (x y z : Int32) : METH (fun σ => fX9_instruction σ x y z) (fun τ => fX10_instruction τ x y z) [2, 1] σ := by
  obtain ⟨P, hP⟩ := h
  have hw := hP.1
  have hn := hw.1.2
  have fail : ∀ e (k : Int32), e ≠ 0 → k ≠ 0 → lwH [2, 1] 1 (e, (0 : Int32), σ) = some (k, σ) → fX9_instruction σ x y z = some (e, 0, σ) → (∀ τ, IVp P τ → fX10_instruction τ x y z = some (0, s3 (s3 τ 0 0) 0 k)) → METH (fun σ => fX9_instruction σ x y z) (fun τ => fX10_instruction τ x y z) [2, 1] σ := fun e k he hk hl hf hg => me_fail hP hf he hk hl (fun τ hτ => ⟨s3 τ 0 0, hg τ hτ, IV_s0 hτ, s3_n (by omega)⟩)
  rcases pk_ix x (n := P_n P) (by omega) with hx | hx | ⟨b, hb', rfl⟩
  · refine fail 2 1 (by decide) (by decide) rfl ?_ (fun τ hτ => ?_)
    · unfold fX9_instruction
      rw [c_rBn hw hP.2.1 (Or.inl hx), bnTe (by decide)]
    · unfold fX10_instruction
      simp only [bd]
      rw [show upm τ 123 (upd (τ 123) 0 0) = s3 τ 0 0 from rfl, m_iBn hw (s3_MP hτ.2.2.1 (by omega)).1 (Or.inl hx)]
      rfl
  · refine fail 2 1 (by decide) (by decide) rfl ?_ (fun τ hτ => ?_)
    · unfold fX9_instruction
      rw [c_rBn hw hP.2.1 (Or.inr hx), bnTe (by decide)]
    · unfold fX10_instruction
      simp only [bd]
      rw [show upm τ 123 (upd (τ 123) 0 0) = s3 τ 0 0 from rfl, m_iBn hw (s3_MP hτ.2.2.1 (by omega)).1 (Or.inr hx)]
      rfl
  · have h8 := hw.2.1 b (by omega)
    have c3 := hP.2.1.2.2.1 b (by omega)
    have eC : fX9_instruction σ (nI b) y z = if y < 0 then some (2, 0, σ) else if y < nI (P_m P b) then (if z = 0 then gd y 8 (some (0, σ (4 + 5 * b + 1) y.toNatClampNeg, σ)) else if z = 1 then gd y 8 (some (0, σ (4 + 5 * b + 2) y.toNatClampNeg, σ)) else if z = 2 then gd y 8 (some (0, σ (4 + 5 * b + 3) y.toNatClampNeg, σ)) else if z = 3 then gd y 8 (some (0, σ (4 + 5 * b + 4) y.toNatClampNeg, σ)) else some (1, 0, σ)) else some (2, 0, σ) := by
      unfold fX9_instruction
      rw [c_rBy hw hP.2.1 hb', bnT0]
      simp (disch := omega) only [gN, nI_clamp, bd, c3]
    have eM : ∀ τ, IVp P τ → fX10_instruction τ (nI b) y z = if y < 0 ∨ nI (P_m P b) ≤ y then some (0, s3 (s3 τ 0 0) 0 1) else (if z = 0 then gd (8 * nI b + y) 64 (some (τ 130 (8 * nI b + y).toNatClampNeg, s3 τ 0 0)) else if z = 1 then gd (8 * nI b + y) 64 (some (τ 131 (8 * nI b + y).toNatClampNeg, s3 τ 0 0)) else if z = 2 then gd (8 * nI b + y) 64 (some (τ 132 (8 * nI b + y).toNatClampNeg, s3 τ 0 0)) else if z = 3 then gd (8 * nI b + y) 64 (some (τ 133 (8 * nI b + y).toNatClampNeg, s3 τ 0 0)) else some (0, s3 (s3 τ 0 0) 0 2)) := by
      intro τ hτ
      have m3 : s3 τ 0 0 124 b = nI (P_m P b) := (s3_MP hτ.2.2.1 (by omega)).2.2.1 b (by omega)
      unfold fX10_instruction
      simp only [bd]
      rw [show upm τ 123 (upd (τ 123) 0 0) = s3 τ 0 0 from rfl, m_iBy hw (s3_MP hτ.2.2.1 (by omega)).1 hb']
      simp only [obs]
      rw [if_neg (by decide)]
      simp (disch := omega) only [gN, nI_clamp, m3, s3_n, m_fails, bn2, un2]
      rcases Nat.eq_zero_or_pos (P_m P b) with e | e
      · rw [e]
        have : fX10_in (s3 τ 0 0) y 0 (nI 0 - 1) = some 0 := by
          unfold fX10_in
          by_cases a : y < 0
          · rw [if_pos a]
          · rw [if_neg a, if_pos (by
              rw [lt_iff]
              have := (not_congr (lt_iff y 0)).mp a
              have e1 : (nI 0 - 1 : Int32).toInt = -1 := by decide
              have e2 : (0 : Int32).toInt = 0 := by decide
              omega)]
        rw [this]
        simp only [obs, if_true]
        by_cases a : y < 0
        · rw [if_pos (Or.inl a)]; rfl
        · rw [if_pos (show y < 0 ∨ nI 0 ≤ y from Or.inr (Int32.not_lt.mp a))]; rfl
      · rw [show nI (P_m P b) - 1 = nI (P_m P b - 1) from sub_li (c := 1) e, m_in (by omega), show P_m P b - 1 + 1 = P_m P b by omega]
        simp only [obs]
        by_cases a : y < 0 ∨ nI (P_m P b) ≤ y
        · rw [if_pos a, if_pos a, if_pos rfl]; rfl
        · rw [if_neg a, if_neg a, if_neg (by decide)]; rfl
    rcases pk_ix y (n := P_m P b) (by omega) with hy | hy | ⟨i, hi, rfl⟩
    · exact fail 2 1 (by decide) (by decide) rfl (eC.trans (if_pos hy)) (fun τ hτ => (eM τ hτ).trans (if_pos (Or.inl hy)))
    · refine fail 2 1 (by decide) (by decide) rfl (eC.trans ?_) (fun τ hτ => (eM τ hτ).trans (if_pos (Or.inr hy)))
      by_cases a : y < 0
      · rw [if_pos a]
      · rw [if_neg a, if_neg (fun q => Int32.not_le.mpr q hy)]
    · rw [if_neg (nI_ge0 (by omega)), if_pos (nI_lt hi (by omega))] at eC
      have eM' := fun τ hτ => (eM τ hτ).trans (if_neg (fun q => q.elim (nI_ge0 (by omega)) (fun r => by have := (nI_leI (by omega) (by omega)).mp r; omega)))
      simp (disch := omega) only [gN, nI_clamp, li_mul, nI_add] at eC eM'
      have ok : ∀ a, fX9_instruction σ (nI b) (nI i) z = some (0, a, σ) → (∀ τ, IVp P τ → fX10_instruction τ (nI b) (nI i) z = some (a, s3 τ 0 0)) → METH (fun σ => fX9_instruction σ (nI b) (nI i) z) (fun τ => fX10_instruction τ (nI b) (nI i) z) [2, 1] σ := fun a hf hg => me_okI hP hf (fun τ hτ => ⟨_, hg τ hτ, s3_n (by omega), s3_s, IV_s0 hτ⟩)
      by_cases z0 : z = 0
      · refine ok (nI (P_k P b i)) ?_ (fun τ hτ => ?_)
        · rw [eC, if_pos z0, hP.2.1.2.2.2.2.2.2.2.2.1 b (by omega) i hi]
        · rw [eM' τ hτ, if_pos z0]
          show some (τ 130 (8 * b + i), _) = _
          rw [hτ.2.2.1.2.2.2.2.2.2.2.2.1 b (by omega) i hi]
      · rw [if_neg z0] at eC
        by_cases z1 : z = 1
        · refine ok (nI (P_t P b i)) ?_ (fun τ hτ => ?_)
          · rw [eC, if_pos z1, hP.2.1.2.2.2.2.2.2.2.2.2.1 b (by omega) i hi]
          · rw [eM' τ hτ, if_neg z0, if_pos z1]
            show some (τ 131 (8 * b + i), _) = _
            rw [hτ.2.2.1.2.2.2.2.2.2.2.2.2.1 b (by omega) i hi]
        · rw [if_neg z1] at eC
          by_cases z2 : z = 2
          · refine ok (P_a P b i) ?_ (fun τ hτ => ?_)
            · rw [eC, if_pos z2, hP.2.1.2.2.2.2.2.2.2.2.2.2.1 b (by omega) i hi]
            · rw [eM' τ hτ, if_neg z0, if_neg z1, if_pos z2]
              show some (τ 132 (8 * b + i), _) = _
              rw [hτ.2.2.1.2.2.2.2.2.2.2.2.2.2.1 b (by omega) i hi]
          · rw [if_neg z2] at eC
            by_cases z3 : z = 3
            · refine ok (P_b P b i) ?_ (fun τ hτ => ?_)
              · rw [eC, if_pos z3, hP.2.1.2.2.2.2.2.2.2.2.2.2.2 b (by omega) i hi]
              · rw [eM' τ hτ, if_neg z0, if_neg z1, if_neg z2, if_pos z3]
                show some (τ 133 (8 * b + i), _) = _
                rw [hτ.2.2.1.2.2.2.2.2.2.2.2.2.2.2 b (by omega) i hi]
            · rw [if_neg z3] at eC
              exact fail 1 2 (by decide) (by decide) rfl eC (fun τ hτ => by rw [eM' τ hτ, if_neg z0, if_neg z1, if_neg z2, if_neg z3])
