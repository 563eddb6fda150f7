/-! the calls that only read -/
theorem me_f0 {f : Mm → Option Rx} {g : Mm → Option (Int32 × Mm)} {es : List Nat} {σ : Mm} {P : Pg} (hP : IVp P σ) (e : Nat) (k : Int32) (he : e ≠ 0) (hk : k ≠ 0) (hl : lwH es 1 (e, (0 : Int32), σ) = some (k, σ)) (hf : f σ = some (e, 0, σ)) (hg : ∀ τ, IVp P τ → g τ = some (0, s3 (s3 τ 0 0) 0 k)) : METH f g es σ := me_fail hP hf he hk hl (fun τ hτ => ⟨s3 τ 0 0, hg τ hτ, IV_s0 hτ, s3_n (by omega)⟩)
theorem me_o0 {f : Mm → Option Rx} {g : Mm → Option (Int32 × Mm)} {es : List Nat} {σ : Mm} {P : Pg} (hP : IVp P σ) (a : Int32) (hf : f σ = some (0, a, σ)) (hg : ∀ τ, IVp P τ → g τ = some (a, s3 τ 0 0)) : METH f g es σ := me_okI hP hf (fun τ hτ => ⟨_, hg τ hτ, s3_n (by omega), s3_s, IV_s0 hτ⟩)
theorem IV_q {P : Pg} {S : List Nat} {σ σ' : Mm} (h : IVp P σ) (hf : Fq S σ σ') (hS : ∀ j, j ∈ S → JK j ∨ j = 123) (h3 : ∀ i, i = 1 ∨ i = 2 ∨ i = 14 ∨ i = 20 ∨ i = 21 ∨ i = 22 ∨ i = 43 → σ' 123 i = σ 123 i) : IVp P σ' := IV_j h (fun j a b c => hf j (fun q => (hS j q).elim a b)) h3 (by rw [hf 113 (fun q => by have := hS 113 q; unfold JK at this; omega)])
theorem up0 {τ : Mm} : upm τ 123 (upd (τ 123) 0 0) = s3 τ 0 0 := rfl
theorem iv_n0 {P : Pg} {τ : Mm} (h : IVp P τ) : s3 τ 0 0 123 1 = nI (P_n P) := (IV_s0 h).2.2.1.1
theorem ix2 (x : Int32) {n : Nat} (h : n < 2 ^ 31) : (x < 0 ∨ nI n ≤ x) ∨ ∃ b, b < n ∧ x = nI b := by
  rcases pk_ix x (n := n) h with q | q | ⟨b, q, r⟩
  · exact Or.inl (Or.inl q)
  · exact Or.inl (Or.inr q)
  · exact Or.inr ⟨b, q, r⟩
theorem me_block {σ : Mm} (h : IV σ) (x y : Int32) : METH (fun σ => fX9_block σ x y) (fun τ => fX10_block τ x y) [2, 1] σ := by
  obtain ⟨P, hP⟩ := h
  have hw := hP.1
  have hn := hw.1.2
  rcases ix2 x (n := P_n P) (by omega) with hx | ⟨b, hb', rfl⟩
  · refine me_f0 hP 2 1 (by decide) (by decide) rfl ?_ (fun τ hτ => ?_)
    · show fX9_block σ x y = _
      unfold fX9_block
      rw [c_rBn hw hP.2.1 hx, bnTe (by decide)]
    · show fX10_block τ x y = _
      unfold fX10_block
      simp only [bd]
      rw [up0, m_iBn hw (iv_n0 hτ) hx]
      rfl
  · obtain ⟨c4, c5, c6, c7, c8, c9, -⟩ := (CP_if.mp hP.2.1).2.2 b (by omega)
    have h2 := hw.2.2.1 b (by omega)
    have eC : fX9_block σ (nI b) y = if y = 0 then some (0, nI (P_m P b), σ) else if y = 1 then some (0, nI (P_e P b), σ) else if y = 2 then some (0, (if P_e P b = 0 then -1 else nI (P_v P b)), σ) else if y = 3 then some (0, (if P_e P b = 2 then -1 else nI (P_f P b)), σ) else if y = 4 then some (0, (if P_e P b = 1 then nI (P_s P b) else -1), σ) else if y = 5 then some (0, nI (P_q P b), σ) else some (1, 0, σ) := by
      unfold fX9_block
      rw [c_rBy hw hP.2.1 hb', bnT0]
      simp (disch := omega) only [gN, nI_clamp, bd, c4, c5, c6, c7, c8, c9]
    have eM : ∀ τ, IVp P τ → fX10_block τ (nI b) y = if y = 0 then some (nI (P_m P b), s3 τ 0 0) else if y = 1 then some (nI (P_e P b), s3 τ 0 0) else if y = 2 then some ((if P_e P b = 0 then -1 else nI (P_v P b)), s3 τ 0 0) else if y = 3 then some ((if P_e P b = 2 then -1 else nI (P_f P b)), s3 τ 0 0) else if y = 4 then some ((if P_e P b = 1 then nI (P_s P b) else -1), s3 τ 0 0) else if y = 5 then some (nI (P_q P b), s3 τ 0 0) else some (0, s3 (s3 τ 0 0) 0 2) := by
      intro τ hτ
      obtain ⟨m0, m1, m2, m3, m4, m5, -⟩ := (MP_if.mp (IV_s0 (x := 0) hτ).2.2.1).2.2 b (by omega)
      simp only [Nat.reduceAdd] at m1 m2 m3 m4 m5
      unfold fX10_block
      simp only [bd]
      rw [up0, m_iBy hw (iv_n0 hτ) hb']
      simp only [obs]
      rw [if_neg (by decide)]
      simp (disch := omega) only [gN, nI_clamp, m0, m1, m5]
      by_cases y0 : y = 0
      · rw [if_pos y0, if_pos y0]
      · rw [if_neg y0, if_neg y0]
        by_cases y1 : y = 1
        · rw [if_pos y1, if_pos y1]
        · rw [if_neg y1, if_neg y1]
          by_cases y2 : y = 2
          · rw [if_pos y2, if_pos y2]
            by_cases q : P_e P b = 0
            · rw [if_pos (by rw [q]; rfl), if_pos q]
            · rw [if_neg (fun r : nI (P_e P b) = 0 => q ((eq_li (c := 0) (by decide) (by omega)).mp r)), if_neg q, m2 q]
          · rw [if_neg y2, if_neg y2]
            by_cases y3 : y = 3
            · rw [if_pos y3, if_pos y3]
              by_cases q : P_e P b = 2
              · rw [if_pos (by rw [q]; rfl), if_pos q]
              · rw [if_neg (fun r : nI (P_e P b) = 2 => q ((eq_li (c := 2) (by decide) (by omega)).mp r)), if_neg q, m3 q]
            · rw [if_neg y3, if_neg y3]
              by_cases y4 : y = 4
              · rw [if_pos y4, if_pos y4]
                by_cases q : P_e P b = 1
                · rw [if_pos (by rw [q]; rfl), if_pos q, m4 q]
                · rw [if_neg (fun r : nI (P_e P b) = 1 => q ((eq_li (c := 1) (by decide) (by omega)).mp r)), if_neg q]
              · rw [if_neg y4, if_neg y4]
                by_cases y5 : y = 5
                · rw [if_pos y5, if_pos y5]
                · rw [if_neg y5, if_neg y5]; rfl
    have ok : ∀ a, fX9_block σ (nI b) y = some (0, a, σ) → (∀ τ, IVp P τ → fX10_block τ (nI b) y = some (a, s3 τ 0 0)) → METH (fun σ => fX9_block σ (nI b) y) (fun τ => fX10_block τ (nI b) y) [2, 1] σ := fun a hf hg => me_o0 hP a hf hg
    by_cases y0 : y = 0
    · exact ok _ (eC.trans (if_pos y0)) (fun τ hτ => (eM τ hτ).trans (if_pos y0))
    · rw [if_neg y0] at eC
      have eM := fun τ hτ => (eM τ hτ).trans (if_neg y0)
      by_cases y1 : y = 1
      · exact ok _ (eC.trans (if_pos y1)) (fun τ hτ => (eM τ hτ).trans (if_pos y1))
      · rw [if_neg y1] at eC
        have eM := fun τ hτ => (eM τ hτ).trans (if_neg y1)
        by_cases y2 : y = 2
        · exact ok _ (eC.trans (if_pos y2)) (fun τ hτ => (eM τ hτ).trans (if_pos y2))
        · rw [if_neg y2] at eC
          have eM := fun τ hτ => (eM τ hτ).trans (if_neg y2)
          by_cases y3 : y = 3
          · exact ok _ (eC.trans (if_pos y3)) (fun τ hτ => (eM τ hτ).trans (if_pos y3))
          · rw [if_neg y3] at eC
            have eM := fun τ hτ => (eM τ hτ).trans (if_neg y3)
            by_cases y4 : y = 4
            · exact ok _ (eC.trans (if_pos y4)) (fun τ hτ => (eM τ hτ).trans (if_pos y4))
            · rw [if_neg y4] at eC
              have eM := fun τ hτ => (eM τ hτ).trans (if_neg y4)
              by_cases y5 : y = 5
              · exact ok _ (eC.trans (if_pos y5)) (fun τ hτ => (eM τ hτ).trans (if_pos y5))
              · exact me_f0 hP 1 2 (by decide) (by decide) rfl (eC.trans (if_neg y5)) (fun τ hτ => (eM τ hτ).trans (if_neg y5))
theorem me_visits {σ : Mm} (h : IV σ) (x : Int32) : METH (fun σ => fX9_visits σ x) (fun τ => fX10_visits τ x) [2] σ := by
  obtain ⟨P, hP⟩ := h
  have hw := hP.1
  have hn := hw.1.2
  rcases ix2 x (n := P_n P) (by omega) with hx | ⟨b, hb', rfl⟩
  · refine me_f0 hP 2 1 (by decide) (by decide) rfl ?_ (fun τ hτ => ?_)
    · show fX9_visits σ x = _
      unfold fX9_visits
      rw [c_rBn hw hP.2.1 hx, bnTe (by decide)]
    · show fX10_visits τ x = _
      unfold fX10_visits
      simp only [bd]
      rw [up0, m_iBn hw (iv_n0 hτ) hx]
      rfl
  · have eC : fX9_visits σ (nI b) = some (0, σ 122 b, σ) := by
      unfold fX9_visits
      rw [c_rBy hw hP.2.1 hb', bnT0]
      simp (disch := omega) only [gN, nI_clamp]
    refine me_ok (σ1 := σ) eC (fun τ hτ => ?_)
    have hτ' := IV_170 hP hτ
    refine ⟨s3 τ 0 0, ?_, s3_n (by omega), s3_s, P, IV_s0 hτ'⟩
    show fX10_visits τ (nI b) = _
    unfold fX10_visits
    simp only [bd]
    rw [up0, m_iBy hw (iv_n0 hτ') hb']
    simp only [obs]
    rw [if_neg (by decide)]
    simp (disch := omega) only [gN, nI_clamp]
    obtain ⟨n, -, n1, n2⟩ := hP.2.2.2.2.2.2.1.2 b (by omega)
    rw [s3_n (by omega), hτ 151 (by omega), n2, n1]
theorem me_executed {σ : Mm} (h : IV σ) (x : Int32) : METH (fun σ => fX9_executed σ x) (fun τ => fX10_executed τ x) [1] σ := by
  obtain ⟨P, hP⟩ := h
  have eM : ∀ τ, fX10_executed τ x = if x < 0 ∨ nI 4 ≤ x then some (0, s3 (s3 τ 0 0) 0 1) else gd x 4 (some (τ 149 x.toNatClampNeg, s3 τ 0 0)) := by
    intro τ
    unfold fX10_executed
    simp only [bd]
    rw [up0, show (3 : Int32) = nI 3 from rfl, m_in (by omega)]
    simp only [obs]
    by_cases a : x < 0 ∨ nI (3 + 1) ≤ x
    · rw [if_pos a, if_pos a, if_pos rfl]; rfl
    · rw [if_neg a, if_neg a, if_neg (by decide), s3_n (by omega)]
  rcases ix2 x (n := 4) (by omega) with hx | ⟨b, hb', rfl⟩
  · refine me_f0 hP 1 1 (by decide) (by decide) rfl ?_ (fun τ hτ => (eM τ).trans (if_pos hx))
    show fX9_executed σ x = _
    unfold fX9_executed
    by_cases a : x < 0
    · rw [if_pos a]
    · rw [if_neg a, if_neg (fun q => by
        rcases hx with h | h
        · exact a h
        · exact Int32.not_le.mpr q h)]
  · refine me_ok (σ1 := σ) (a := σ 121 b) ?_ (fun τ hτ => ?_)
    · show fX9_executed σ (nI b) = _
      unfold fX9_executed
      rw [if_neg (nI_ge0 (by omega)), if_pos (show nI b < 4 from nI_lt (b := 4) hb' (by omega))]
      simp (disch := omega) only [gN, nI_clamp]
    · refine ⟨s3 τ 0 0, (eM τ).trans ?_, s3_n (by omega), s3_s, P, IV_s0 (IV_170 hP hτ)⟩
      rw [if_neg (fun q => q.elim (nI_ge0 (by omega)) (fun r => by have := (nI_leI (by omega) (by omega)).mp r; omega))]
      simp (disch := omega) only [gN, nI_clamp]
      rw [hτ 149 (by omega), hP.2.2.2.2.2.2.1.1 b hb']
theorem me_live {σ : Mm} (h : IV σ) (x y : Int32) : METH (fun σ => fX9_live σ x y) (fun τ => fX10_live τ x y) [2] σ := by
  obtain ⟨P, hP⟩ := h
  have hw := hP.1
  have hn := hw.1.2
  rcases ix2 x (n := P_n P) (by omega) with hx | ⟨b, hb', rfl⟩
  · refine me_f0 hP 2 1 (by decide) (by decide) rfl ?_ (fun τ hτ => ?_)
    · show fX9_live σ x y = _
      unfold fX9_live
      rw [c_rBn hw hP.2.1 hx, bnTe (by decide)]
    · show fX10_live τ x y = _
      unfold fX10_live
      simp only [bd]
      rw [up0, m_iBn hw (iv_n0 hτ) hx]
      rfl
  · have h8 := hw.2.1 b (by omega)
    have c3 := hP.2.1.2.2.1 b (by omega)
    have eM : ∀ τ, IVp P τ → fX10_live τ (nI b) y = if y < 0 ∨ nI (P_m P b + 1) ≤ y then some (0, s3 (s3 τ 0 0) 0 1) else (fX10_layLive (s3 τ 0 0)).bind fun σ7 => (fX10_liveOf σ7 (nI b) y).bind fun r8 => some (r8, σ7) := by
      intro τ hτ
      have m3 : s3 τ 0 0 124 b = nI (P_m P b) := (s3_MP hτ.2.2.1 (by omega)).2.2.1 b (by omega)
      unfold fX10_live
      simp only [bd]
      rw [up0, m_iBy hw (iv_n0 hτ) hb']
      simp only [obs]
      rw [if_neg (by decide)]
      simp (disch := omega) only [gN, nI_clamp, m3]
      rw [m_in (by omega)]
      simp only [obs]
      by_cases a : y < 0 ∨ nI (P_m P b + 1) ≤ y
      · rw [if_pos a, if_pos a, if_pos rfl]; rfl
      · rw [if_neg a, if_neg a, if_neg (by decide)]
    rcases ix2 y (n := P_m P b + 1) (by omega) with hy | ⟨i, hi, rfl⟩
    · refine me_f0 hP 2 1 (by decide) (by decide) rfl ?_ (fun τ hτ => (eM τ hτ).trans (if_pos hy))
      show fX9_live σ (nI b) y = _
      unfold fX9_live
      rw [c_rBy hw hP.2.1 hb', bnT0]
      simp (disch := omega) only [gN, nI_clamp, bd, c3]
      by_cases a : y < 0
      · rw [if_pos a]
      · rw [if_neg a, if_neg (fun q => by
          rcases hy with h | h
          · exact a h
          · have h1 := (le_iff _ _).mp h
            have h2 := (le_iff _ _).mp q
            rw [nI_toInt (by omega)] at h1 h2
            omega)]
    · obtain ⟨s, e, hP1, ha, t, -, -⟩ := iv_an hP
      refine me_okI hP1 (a := lv P (LV P) b i) ?_ (fun τ hτ => ?_)
      · show fX9_live σ (nI b) (nI i) = _
        unfold fX9_live
        rw [c_rBy hw hP.2.1 hb', bnT0]
        simp (disch := omega) only [gN, nI_clamp, bd, c3, e, obs, if_neg (nI_ge0 (show i < 2 ^ 31 by omega)), nI_leI, mul_li, nI_add]
        rw [if_pos (by omega), ha.1 b hb' i (by omega)]
      · have hτ0 := IV_s0 (x := 0) hτ
        refine ⟨upm (s3 τ 0 0) 135 (mLV P (s3 τ 0 0 135)), (eM τ hτ).trans ?_, ?_, ?_, IV_q (S := [135]) hτ0 (Fq_rf.up (by simp)) (by simp [JK]) (fun i _ => by rw [upm_n (by omega)])⟩
        · rw [if_neg (fun q => q.elim (nI_ge0 (by omega)) (fun r => by have := (nI_leI (by omega) (by omega)).mp r; omega)), m_layLive hw hτ0.2.2.1]
          simp only [obs]
          rw [m_liveOf hw (hτ0.2.2.1.up (by omega)) (by omega) (by omega), upm_s, lv_cg (show ∀ t, t < P_n P → mLV P (s3 τ 0 0 135) t = LV P t from fun t ht => if_pos ht)]
          rfl
        · rw [upm_n (by omega), s3_n (by omega)]
        · rw [upm_n (by omega)]; exact s3_s
theorem me_conflicts {σ : Mm} (h : IV σ) (x : Int32) : METH (fun σ => fX9_conflicts σ x) (fun τ => fX10_conflicts τ x) [1] σ := by
  obtain ⟨P, hP⟩ := h
  have hw := hP.1
  rcases ix2 x (n := 12) (by omega) with hx | ⟨v, hv, rfl⟩
  · refine me_f0 hP 1 1 (by decide) (by decide) rfl ?_ (fun τ hτ => ?_)
    · show fX9_conflicts σ x = _
      unfold fX9_conflicts
      rw [c_rVn hx, bnTe (by decide)]
    · show fX10_conflicts τ x = _
      unfold fX10_conflicts
      simp only [bd]
      rw [up0, m_iVn hx]
      rfl
  · obtain ⟨s, e, hP1, ha, t, -, -⟩ := iv_an hP
    refine me_okI hP1 (a := RV P v) ?_ (fun τ hτ => ?_)
    · show fX9_conflicts σ (nI v) = _
      unfold fX9_conflicts
      rw [c_rVy hv, bnT0]
      simp (disch := omega) only [gN, nI_clamp, e, obs, ha.2.2.1 v hv]
    · have hτ0 := IV_s0 (x := 0) hτ
      obtain ⟨τ1, e1, f1, a1⟩ := m_conf hw hτ0.2.2.1
      refine ⟨τ1, ?_, ?_, ?_, IV_q hτ0 f1 (by simp [JK]) (fun i _ => by rw [f1 123 (by simp)])⟩
      · show fX10_conflicts τ (nI v) = _
        unfold fX10_conflicts
        simp only [bd]
        rw [up0, m_iVy hv]
        simp only [obs]
        rw [if_neg (by decide), e1]
        simp (disch := omega) only [gN, nI_clamp, obs, a1.2.2 v hv]
      · rw [f1 170 (by simp), s3_n (by omega)]
      · rw [f1 123 (by simp)]; exact s3_s
