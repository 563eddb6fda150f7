/-! the plan, read -/
theorem me_fE {f : Mm → Option Rx} {g : Mm → Option (Int32 × Mm)} {es : List Nat} {σ σ1 : Mm} {P : Pg} (h : IVp P σ1) (e : Nat) (k : Int32) (he : e ≠ 0) (hk : k ≠ 0) (hl : lwH es 1 (e, (0 : Int32), σ1) = some (k, σ1)) (hf : f σ = some (e, 0, σ1)) (hg : ∀ τ, (∀ j, j ≠ 170 → τ j = σ1 j) → IVp P τ → ∃ τ1, g τ = some (0, s3 τ1 0 k) ∧ IVp P τ1 ∧ τ1 170 = τ 170) : METH f g es σ := by
  refine ⟨e, 0, σ1, k, hf, Or.inr ⟨he, hk, hl⟩, fun τ hτ => ?_⟩
  obtain ⟨τ1, g1, g2, g3⟩ := hg τ hτ (IV_170 h hτ)
  exact ⟨0, s3 τ1 0 k, g1, by rw [s3_n (by omega)]; exact g3, s3_s, fun q => absurd q he, P, IV_s0 g2⟩
theorem me_oE {f : Mm → Option Rx} {g : Mm → Option (Int32 × Mm)} {es : List Nat} {σ σ1 : Mm} {P : Pg} (h : IVp P σ1) (a : Int32) (hf : f σ = some (0, a, σ1)) (hg : ∀ τ, (∀ j, j ≠ 170 → τ j = σ1 j) → IVp P τ → ∃ τ1, g τ = some (a, τ1) ∧ τ1 170 = τ 170 ∧ τ1 123 0 = 0 ∧ IVp P τ1) : METH f g es σ := me_ok hf (fun τ hτ => by
  obtain ⟨τ1, g1, g2, g3, g4⟩ := hg τ hτ (IV_170 h hτ)
  exact ⟨τ1, g1, g2, g3, P, g4⟩)
theorem in3 {i : Nat} (h : i < 3) : i = 0 ∨ i = 1 ∨ i = 2 := by omega
theorem nx {i n : Nat} (h : i < n) (hn : n < 2 ^ 31) : ¬ (nI i < 0 ∨ nI n ≤ nI i) := fun q => q.elim (nI_ge0 (by omega)) (fun r => by have := (nI_leI (by omega) (by omega)).mp r; omega)
theorem le_bad {x : Int32} {n : Nat} (hn : n < 2 ^ 30) (h : x < 0 ∨ nI (n + 1) ≤ x) (a : ¬ x < 0) : ¬ x ≤ nI n := fun q => by
  rcases h with h | h
  · exact a h
  · have h1 := (le_iff _ _).mp h
    have h2 := (le_iff _ _).mp q
    rw [nI_toInt (by omega)] at h1 h2
    omega
theorem me_home {σ : Mm} (h : IV σ) (x y : Int32) : METH (fun σ => fX9_home σ x y) (fun τ => fX10_home τ x y) [1, 3] σ := by
  obtain ⟨P, hP⟩ := h
  have hw := hP.1
  rcases ix2 x (n := 12) (by omega) with hx | ⟨v, hv, rfl⟩
  · refine me_f0 hP 1 1 (by decide) (by decide) rfl ?_ (fun τ hτ => ?_)
    · show fX9_home σ x y = _
      unfold fX9_home
      rw [c_rVn hx, bnTe (by decide)]
    · show fX10_home τ x y = _
      unfold fX10_home
      simp only [bd]
      rw [up0, m_iVn hx]
      rfl
  · have eM : ∀ τ, fX10_home τ (nI v) y = if y < 0 ∨ nI 3 ≤ y then some (0, s3 (s3 τ 0 0) 0 1) else if τ 123 14 = 0 then some (0, s3 (s3 τ 0 0) 0 2) else if y = 0 then some (τ 139 v, s3 τ 0 0) else if y = 1 then some (τ 140 v, s3 τ 0 0) else some (τ 141 v, s3 τ 0 0) := by
      intro τ
      unfold fX10_home
      simp only [bd]
      rw [up0, m_iVy hv]
      simp only [obs]
      rw [if_neg (by decide), show fX10_in (s3 τ 0 0) y 0 2 = _ from m_in (m := 2) (by omega) y]
      simp only [obs]
      simp (disch := omega) only [gN, nI_clamp, s3_n, s3_i]
      by_cases a : y < 0 ∨ nI (2 + 1) ≤ y
      · rw [if_pos a, if_pos a, if_pos rfl]; rfl
      · rw [if_neg a, if_neg a, if_neg (by decide)]; rfl
    rcases ix2 y (n := 3) (by omega) with hy | ⟨i, hi, rfl⟩
    · refine me_f0 hP 1 1 (by decide) (by decide) rfl ?_ (fun τ hτ => (eM τ).trans (if_pos hy))
      show fX9_home σ (nI v) y = _
      unfold fX9_home
      rw [c_rVy hv, bnT0]
      by_cases a : y < 0
      · rw [if_pos a]
      · rw [if_neg a, if_neg (show ¬ y ≤ 2 from le_bad (n := 2) (by omega) hy a)]
    · have eC : fX9_home σ (nI v) (nI i) = bnT (fX9_requirePlan σ) fun _ σ4 => if nI i = 0 then some (0, σ4 98 v, σ4) else if nI i = 1 then some (0, σ4 99 v, σ4) else some (0, σ4 100 v, σ4) := by
        unfold fX9_home
        rw [c_rVy hv, bnT0, if_neg (nI_ge0 (by omega)), if_pos (show nI i ≤ 2 from (nI_leI (b := 2) (by omega) (by omega)).mpr (by omega))]
        simp (disch := omega) only [gN, nI_clamp]
      rcases hP.2.2.2.2.1 with ⟨p1, p2⟩ | ⟨p1, p2, p3, x, k, hk, pc, pm⟩
      · refine me_fE hP 3 2 (by decide) (by decide) rfl ?_ (fun τ hτ hI => ⟨s3 τ 0 0, (eM τ).trans ?_, IV_s0 hI, s3_n (by omega)⟩)
        · show fX9_home σ (nI v) (nI i) = _
          rw [eC]
          unfold fX9_requirePlan
          rw [p1, if_pos rfl, bnTe (by decide)]
        · rw [if_neg (nx hi (by omega)), if_pos (by rw [hτ 123 (by omega)]; exact p2)]
      · have eC2 : fX9_home σ (nI v) (nI i) = if nI i = 0 then some (0, σ 98 v, σ) else if nI i = 1 then some (0, σ 99 v, σ) else some (0, σ 100 v, σ) := by
          rw [eC]
          unfold fX9_requirePlan
          rw [p1, if_neg (by decide), bnT0]
        have eM2 : ∀ τ, (∀ j, j ≠ 170 → τ j = σ j) → fX10_home τ (nI v) (nI i) = if nI i = 0 then some (σ 139 v, s3 τ 0 0) else if nI i = 1 then some (σ 140 v, s3 τ 0 0) else some (σ 141 v, s3 τ 0 0) := fun τ hτ => by
          rw [eM τ, if_neg (nx hi (by omega)), if_neg (by rw [hτ 123 (by omega), p2]; decide), hτ 139 (by omega), hτ 140 (by omega), hτ 141 (by omega)]
        have fin : ∀ a, fX9_home σ (nI v) (nI i) = some (0, a, σ) → (∀ τ, (∀ j, j ≠ 170 → τ j = σ j) → fX10_home τ (nI v) (nI i) = some (a, s3 τ 0 0)) → METH (fun σ => fX9_home σ (nI v) (nI i)) (fun τ => fX10_home τ (nI v) (nI i)) [1, 3] σ := fun a hf hg => me_oE hP a hf (fun τ hτ hI => ⟨_, hg τ hτ, s3_n (by omega), s3_s, IV_s0 hI⟩)
        rcases in3 hi with q | q | q
        · subst q
          exact fin (σ 98 v) eC2 (fun τ hτ => by rw [eM2 τ hτ, if_pos (by decide), pc.1.2.2.2.1 v hv, pm.1 v hv])
        · subst q
          exact fin (σ 99 v) eC2 (fun τ hτ => by rw [eM2 τ hτ, if_neg (by decide), if_pos (by decide), pc.1.2.2.2.2.1 v hv, pm.2.1 v hv])
        · subst q
          exact fin (σ 100 v) eC2 (fun τ hτ => by rw [eM2 τ hτ, if_neg (by decide), if_neg (by decide), pc.2.1 v hv, pm.2.2.1 v hv])
theorem me_promoted {σ : Mm} (h : IV σ) (x y : Int32) : METH (fun σ => fX9_promoted σ x y) (fun τ => fX10_promoted τ x y) [1, 2, 3, 4] σ := by
  obtain ⟨P, hP⟩ := h
  have hw := hP.1
  have hL := LC_le hw
  rcases ix2 x (n := 12) (by omega) with hx | ⟨v, hv, rfl⟩
  · refine me_f0 hP 1 1 (by decide) (by decide) rfl ?_ (fun τ hτ => ?_)
    · show fX9_promoted σ x y = _
      unfold fX9_promoted
      rw [c_rVn hx, bnTe (by decide)]
    · show fX10_promoted τ x y = _
      unfold fX10_promoted
      simp only [bd]
      rw [up0, m_iVn hx]
      rfl
  · obtain ⟨s, e, hP1, ha, -, -, -⟩ := c_rL hP y
    have eM : ∀ τ, IVp P τ → ∃ τ1, IVp P τ1 ∧ τ1 170 = τ 170 ∧ τ1 123 0 = 0 ∧ fX10_promoted τ (nI v) y = if y < 0 ∨ nI (LC P) ≤ y then some (0, s3 τ1 0 2) else if τ 123 14 = 0 then some (0, s3 τ1 0 3) else gd (8 * nI v + y) 96 (if 0 ≤ τ 142 (8 * nI v + y).toNatClampNeg then some (τ 142 (8 * nI v + y).toNatClampNeg, τ1) else some (0, s3 τ1 0 4)) := by
      intro τ hτ
      obtain ⟨τ1, g1, g2, g3, g4, g5, g6, g7⟩ := m_ll hτ
      refine ⟨τ1, g2, g3, g4, ?_⟩
      unfold fX10_promoted
      simp only [bd]
      rw [up0, m_iVy hv]
      simp only [obs]
      rw [if_neg (by decide), g1]
      simp only [obs]
      rw [g5.1, m_inn (by omega), g6, g7]
      simp only [obs]
      by_cases a : y < 0 ∨ nI (LC P) ≤ y
      · rw [if_pos a, if_pos a, if_pos rfl]; rfl
      · rw [if_neg a, if_neg a, if_neg (by decide)]; rfl
    rcases ix2 y (n := LC P) (by omega) with hy | ⟨l, hl, rfl⟩
    · rw [if_pos hy] at e
      refine me_fE hP1 2 2 (by decide) (by decide) rfl ?_ (fun τ _ hτ => ?_)
      · show fX9_promoted σ (nI v) y = _
        unfold fX9_promoted
        rw [c_rVy hv, bnT0, e, bnTe (by decide)]
      · obtain ⟨τ1, g1, g2, g3, g4⟩ := eM τ hτ
        exact ⟨τ1, g4.trans (if_pos hy), g1, g2⟩
    · have ny := nx hl (by omega)
      rw [if_neg ny] at e
      have eC : fX9_promoted σ (nI v) (nI l) = bnT (fX9_requirePlan s) fun _ σ6 => if σ6 101 (l * 12 + v) = -1 then some (4, 0, σ6) else some (0, σ6 101 (l * 12 + v), σ6) := by
        unfold fX9_promoted
        rw [c_rVy hv, bnT0, e, bnT0]
        simp (disch := omega) only [bd, gN, nI_clamp, mul_li, nI_add]
      have eM2 : ∀ τ, IVp P τ → ∃ τ1, IVp P τ1 ∧ τ1 170 = τ 170 ∧ τ1 123 0 = 0 ∧ fX10_promoted τ (nI v) (nI l) = if τ 123 14 = 0 then some (0, s3 τ1 0 3) else if 0 ≤ τ 142 (8 * v + l) then some (τ 142 (8 * v + l), τ1) else some (0, s3 τ1 0 4) := by
        intro τ hτ
        obtain ⟨τ1, g1, g2, g3, g4⟩ := eM τ hτ
        refine ⟨τ1, g1, g2, g3, ?_⟩
        rw [g4, if_neg ny]
        simp (disch := omega) only [gN, nI_clamp, li_mul, nI_add]
      rcases hP1.2.2.2.2.1 with ⟨p1, p2⟩ | ⟨p1, p2, p3, x, k, hk, pc, pm⟩
      · refine me_fE hP1 3 3 (by decide) (by decide) rfl ?_ (fun τ hτ hI => ?_)
        · show fX9_promoted σ (nI v) (nI l) = _
          rw [eC]
          unfold fX9_requirePlan
          rw [p1, if_pos rfl, bnTe (by decide)]
        · obtain ⟨τ1, g1, g2, g3, g4⟩ := eM2 τ hI
          exact ⟨τ1, g4.trans (if_pos (by rw [hτ 123 (by omega)]; exact p2)), g1, g2⟩
      · have eT := pc.2.2.1 v l hv (by omega)
        have eU := pm.2.2.2.2.2.1 v l hv (by omega)
        have n14 : ∀ τ : Mm, (∀ j, j ≠ 170 → τ j = s j) → ¬ τ 123 14 = 0 := fun τ hτ => by rw [hτ 123 (by omega), p2]; decide
        have eC2 : fX9_promoted σ (nI v) (nI l) = if s 101 (l * 12 + v) = -1 then some (4, 0, s) else some (0, s 101 (l * 12 + v), s) := by
          rw [eC]
          unfold fX9_requirePlan
          rw [p1, if_neg (by decide), bnT0]
        rw [eT] at eC2
        rcases (PT_ok (H := HZ P x k) hw hk).1 v l hv (by omega) with q | ⟨-, c, hc, q⟩
        · rw [q] at eC2 eU
          refine me_fE hP1 4 4 (by decide) (by decide) rfl (eC2.trans (if_pos rfl)) (fun τ hτ hI => ?_)
          obtain ⟨τ1, g1, g2, g3, g4⟩ := eM2 τ hI
          refine ⟨τ1, g4.trans ((if_neg (n14 τ hτ)).trans (if_neg ?_)), g1, g2⟩
          rw [hτ 142 (by omega), eU]; decide
        · rw [q] at eC2 eU
          rw [if_neg (fun r : nI c = -1 => absurd ((nI_leI (a := 0) (b := c) (by omega) (by omega)).mpr (by omega)) (by rw [r]; decide))] at eC2
          refine me_oE hP1 _ eC2 (fun τ hτ hI => ?_)
          obtain ⟨τ1, g1, g2, g3, g4⟩ := eM2 τ hI
          refine ⟨τ1, g4.trans ((if_neg (n14 τ hτ)).trans ?_), g2, g3, g1⟩
          rw [hτ 142 (by omega), eU, if_pos (show (0 : Int32) ≤ nI c from (nI_leI (a := 0) (by omega) (by omega)).mpr (by omega))]
theorem me_planned {σ : Mm} (h : IV σ) (y : Int32) : METH (fun σ => fX9_planned σ y) (fun τ => fX10_planned τ y) [1, 3] σ := by
  obtain ⟨P, hP⟩ := h
  have hw := hP.1
  have eM : ∀ τ, fX10_planned τ y = if y < 0 ∨ nI 5 ≤ y then some (0, s3 (s3 τ 0 0) 0 1) else if τ 123 14 = 0 then some (0, s3 (s3 τ 0 0) 0 2) else if y = 0 then some (τ 123 20, s3 τ 0 0) else if y = 1 then some (τ 123 21, s3 τ 0 0) else if y = 2 then (fX10_homes (s3 τ 0 0) 2).bind fun r5 => some (r5, s3 τ 0 0) else if y = 3 then (fX10_promotions (s3 τ 0 0)).bind fun r7 => some (r7, s3 τ 0 0) else bn2 (fX10_costs (s3 τ 0 0)) fun r9 σ10 => some (r9, σ10) := by
    intro τ
    unfold fX10_planned
    simp only [bd]
    rw [up0, show fX10_in (s3 τ 0 0) y 0 4 = _ from m_in (m := 4) (by omega) y]
    simp only [obs]
    simp (disch := omega) only [s3_i]
    by_cases a : y < 0 ∨ nI (4 + 1) ≤ y
    · rw [if_pos a, if_pos a, if_pos rfl]; rfl
    · rw [if_neg a, if_neg a, if_neg (by decide)]; rfl
  rcases ix2 y (n := 5) (by omega) with hy | ⟨i, hi, rfl⟩
  · refine me_f0 hP 1 1 (by decide) (by decide) rfl ?_ (fun τ hτ => (eM τ).trans (if_pos hy))
    show fX9_planned σ y = _
    unfold fX9_planned
    by_cases a : y < 0
    · rw [if_pos a]
    · rw [if_neg a, if_neg (show ¬ y ≤ 4 from le_bad (n := 4) (by omega) hy a)]
  · have eC : fX9_planned σ (nI i) = bnT (fX9_requirePlan σ) fun _ σ2 => if nI i = 0 then some (0, σ2 97 9, σ2) else if nI i = 1 then (fX5_slotCount σ2).bind fun r4 => some (0, r4, σ2) else if nI i = 2 then (fX5_countAt σ2 2).bind fun r6 => some (0, r6, σ2) else if nI i = 3 then some (0, σ2 97 10, σ2) else (fX5_totalCost σ2).bind fun r9 => some (0, r9, σ2) := by
      unfold fX9_planned
      rw [if_neg (nI_ge0 (by omega)), if_pos (show nI i ≤ 4 from (nI_leI (b := 4) (by omega) (by omega)).mpr (by omega))]
    rcases hP.2.2.2.2.1 with ⟨p1, p2⟩ | ⟨p1, p2, p3, x, k, hk, pc, pm⟩
    · refine me_fE hP 3 2 (by decide) (by decide) rfl ?_ (fun τ hτ hI => ⟨s3 τ 0 0, (eM τ).trans ?_, IV_s0 hI, s3_n (by omega)⟩)
      · show fX9_planned σ (nI i) = _
        rw [eC]
        unfold fX9_requirePlan
        rw [p1, if_pos rfl, bnTe (by decide)]
      · rw [if_neg (nx hi (by omega)), if_pos (by rw [hτ 123 (by omega)]; exact p2)]
    · have eC2 : fX9_planned σ (nI i) = if nI i = 0 then some (0, σ 97 9, σ) else if nI i = 1 then (fX5_slotCount σ).bind fun r4 => some (0, r4, σ) else if nI i = 2 then (fX5_countAt σ 2).bind fun r6 => some (0, r6, σ) else if nI i = 3 then some (0, σ 97 10, σ) else (fX5_totalCost σ).bind fun r9 => some (0, r9, σ) := by
        rw [eC]
        unfold fX9_requirePlan
        rw [p1, if_neg (by decide), bnT0]
      have eM2 : ∀ τ, (∀ j, j ≠ 170 → τ j = σ j) → fX10_planned τ (nI i) = if nI i = 0 then some (σ 123 20, s3 τ 0 0) else if nI i = 1 then some (σ 123 21, s3 τ 0 0) else if nI i = 2 then (fX10_homes (s3 τ 0 0) 2).bind fun r5 => some (r5, s3 τ 0 0) else if nI i = 3 then (fX10_promotions (s3 τ 0 0)).bind fun r7 => some (r7, s3 τ 0 0) else bn2 (fX10_costs (s3 τ 0 0)) fun r9 σ10 => some (r9, σ10) := fun τ hτ => by
        rw [eM τ, if_neg (nx hi (by omega)), if_neg (by rw [hτ 123 (by omega), p2]; decide), hτ 123 (by omega)]
      have fin : ∀ a, fX9_planned σ (nI i) = some (0, a, σ) → (∀ τ, (∀ j, j ≠ 170 → τ j = σ j) → fX10_planned τ (nI i) = some (a, s3 τ 0 0)) → METH (fun σ => fX9_planned σ (nI i)) (fun τ => fX10_planned τ (nI i)) [1, 3] σ := fun a hf hg => me_oE hP a hf (fun τ hτ hI => ⟨_, hg τ hτ, s3_n (by omega), s3_s, IV_s0 hI⟩)
      have h139 : ∀ τ : Mm, (∀ j, j ≠ 170 → τ j = σ j) → ∀ v, v < 12 → s3 τ 0 0 139 v = HZ P x k v := fun τ hτ v hv => by rw [s3_n (by omega), hτ 139 (by omega)]; exact pm.1 v hv
      have hPT := PT_ok (H := HZ P x k) hw hk
      have h5 : i = 0 ∨ i = 1 ∨ i = 2 ∨ i = 3 ∨ i = 4 := by omega
      rcases h5 with q | q | q | q | q
      · subst q
        exact fin (σ 97 9) eC2 (fun τ hτ => by rw [eM2 τ hτ, if_pos (by decide), pc.1.2.2.1, pm.2.2.2.1])
      · subst q
        refine fin (nI (mxc (sA (HZ P x k) 1) (RV P) 12)) ?_ (fun τ hτ => by rw [eM2 τ hτ, if_neg (by decide), if_pos (by decide), pm.2.2.2.2.1])
        rw [eC2, if_neg (by decide), if_pos (by decide)]
        unfold fX5_slotCount
        rw [c_inUse pc.2.1]
        rfl
      · subst q
        refine fin (nI (cnt (sA (HZ P x k) 2) 12)) ?_ (fun τ hτ => ?_)
        · rw [eC2, if_neg (by decide), if_neg (by decide), if_pos (by decide), c_countAt pc.1.2.2.2.1]
          rfl
        · rw [eM2 τ hτ, if_neg (by decide), if_neg (by decide), if_pos (by decide), m_homes (h139 τ hτ)]
          rfl
      · subst q
        refine fin (nI (nT (PT P (HZ P x k) k).1)) ?_ (fun τ hτ => ?_)
        · rw [eC2, if_neg (by decide), if_neg (by decide), if_neg (by decide), if_pos (by decide), pc.2.2.2.2, hPT.2.2]
        · rw [eM2 τ hτ, if_neg (by decide), if_neg (by decide), if_neg (by decide), if_pos (by decide), m_promotions (st := PT P (HZ P x k) k) ⟨fun v l hv hl => by rw [s3_n (by omega), hτ 142 (by omega)]; exact pm.2.2.2.2.2.1 v l hv hl, by rw [s3_i (by omega), hτ 123 (by omega)]; exact pm.2.2.2.2.2.2⟩]
          rfl
      · subst q
        refine me_oE hP (-(PT P (HZ P x k) k).2.1 + nI (sm (tC P (HZ P x k)) 12)) ?_ (fun τ hτ hI => ?_)
        · show fX9_planned σ (nI 4) = _
          rw [eC2, if_neg (by decide), if_neg (by decide), if_neg (by decide), if_neg (by decide), c_total hw pc.1.1 pc.1.2.1 pc.1.2.2.2.1 pc.2.2.2.1]
          rfl
        · have hI0 := IV_s0 (x := 0) hI
          obtain ⟨τ1, g1, g2⟩ := m_costs (G := (PT P (HZ P x k) k).2.1) hw hI0.2.2.1 (h139 τ hτ) (by rw [s3_i (by omega), hτ 123 (by omega)]; exact pm.2.2.2.2.2.2)
          refine ⟨τ1, ?_, by rw [g2 170 (by simp), s3_n (by omega)], by rw [g2 123 (by simp)]; exact s3_s, IV_q hI0 g2 (by simp [JK]) (fun i _ => by rw [g2 123 (by simp)])⟩
          show fX10_planned τ (nI 4) = _
          rw [eM2 τ hτ, if_neg (by decide), if_neg (by decide), if_neg (by decide), if_neg (by decide), g1]
          rfl
