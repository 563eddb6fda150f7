/-! profile -/
theorem mx1k {n : Nat} (h : n ≤ 1000) : mx 1 (nI n) = nI (max 1 n) := by
  unfold mx
  by_cases q : 1 < n
  · rw [if_pos (show (1 : Int32) < nI n from (li_lt (c := 1) (by decide) (by omega)).mpr q), Nat.max_eq_right (by omega)]
  · rw [if_neg (fun r : (1 : Int32) < nI n => q ((li_lt (c := 1) (by decide) (by omega)).mp r)), Nat.max_eq_left (by omega)]
    rfl
def pn (Q W : Nat → Nat) : Nat → Nat
  | 0 => 0
  | k + 1 => pn Q W k + (if Q k = W k then 0 else 1)
theorem pn_le {Q W : Nat → Nat} : ∀ k, pn Q W k ≤ k
  | 0 => Nat.le_refl _
  | k + 1 => by
    have := @pn_le Q W k
    show pn Q W k + (if Q k = W k then 0 else 1) ≤ k + 1
    by_cases q : Q k = W k
    · rw [if_pos q]; omega
    · rw [if_neg q]; omega
def Pp (P : Pg) (W : Nat → Nat) : Pg := (P_n P, P_m P, P_k P, P_t P, P_a P, P_b P, P_e P, P_v P, P_f P, P_s P, (fun x => if x < P_n P then W x else P_q P x), P_i P)
theorem Pp_W {P : Pg} {W : Nat → Nat} (hw : WP P) (h : ∀ x, x < 8 → 1 ≤ W x ∧ W x ≤ 9999) : WP (Pp P W) := by
  obtain ⟨h1, h2⟩ := WP_if.mp hw
  refine WP_if.mpr ⟨h1, fun b hb' => ?_⟩
  obtain ⟨a1, a2, a3, a4, a5, a6, a7⟩ := h2 b hb'
  refine ⟨a1, a2, a3, a4, a5, ?_, a7⟩
  show 1 ≤ (if b < P_n P then W b else P_q P b) ∧ (if b < P_n P then W b else P_q P b) ≤ 9999
  by_cases q : b < P_n P
  · rw [if_pos q]; exact h b hb'
  · rw [if_neg q]; exact a6
theorem c_prof {σ : Mm} {P : Pg} {V : Nat → Nat} (hw : WP P) (hc : CP σ 1 4 P) (hv : ∀ x, x < 8 → V x ≤ 1000 ∧ σ 122 x = nI (V x)) : ∃ σ', qX9_profile_4 FU (σ, 0, 0) = some (σ', nI (pn (P_q P) (fun x => max 1 (V x)) (P_n P))) ∧ (∀ j, j < 4 ∨ 43 < j → σ' j = σ j) ∧ CP σ' 1 4 (Pp P (fun x => max 1 (V x))) := by
  have hn := hw.1.2
  obtain ⟨c1, c2, c3⟩ := CP_if.mp hc
  obtain ⟨⟨s, x⟩, e, ⟨f, rx, r1, r2, r3⟩⟩ : ∃ r, qX9_profile_4 FU (σ, 0, 0) = some r ∧ ((∀ j, j < 4 ∨ 43 < j → r.1 j = σ j) ∧ r.2 = nI (pn (P_q P) (fun x => max 1 (V x)) (P_n P)) ∧ (∀ c j, c < 8 → 1 ≤ j → j ≤ 4 → r.1 (4 + 5 * c + j) = σ (4 + 5 * c + j)) ∧ (∀ c i, c < 8 → i ≠ 9 → r.1 (4 + 5 * c) i = σ (4 + 5 * c) i) ∧ ∀ c, c < 8 → r.1 (4 + 5 * c) 9 = nI (if c < P_n P then max 1 (V c) else P_q P c)) := by
    refine lp_inv3 (fun k s x => (∀ j, j < 4 ∨ 43 < j → s j = σ j) ∧ x = nI (pn (P_q P) (fun x => max 1 (V x)) k) ∧ (∀ c j, c < 8 → 1 ≤ j → j ≤ 4 → s (4 + 5 * c + j) = σ (4 + 5 * c + j)) ∧ (∀ c i, c < 8 → i ≠ 9 → s (4 + 5 * c) i = σ (4 + 5 * c) i) ∧ ∀ c, c < 8 → s (4 + 5 * c) 9 = nI (if c < k then max 1 (V c) else P_q P c)) (P_n P) _ ?_ ?_ ⟨fun _ _ => rfl, rfl, fun _ _ _ _ _ => rfl, fun _ _ _ _ => rfl, fun c hc => by rw [if_neg (by omega)]; exact (c3 c hc).2.2.2.2.2.1⟩ (fu (by omega))
    · rintro k s x hk ⟨j1, rfl, j2, j3, j4⟩
      have h12 : s 1 2 = nI (P_n P) := by rw [j1 1 (by omega)]; exact c1
      have h122 : s 122 k = nI (V k) := by rw [j1 122 (by omega)]; exact (hv k (by omega)).2
      have hV := (hv k (by omega)).1
      have h9 : s (4 + 5 * k) 9 = nI (P_q P k) := by rw [j4 k (by omega), if_neg (by omega)]
      have hq := (hw.2.2.2.2.2.2.1 k (by omega)).2
      have hp := @pn_le (P_q P) (fun x => max 1 (V x)) k
      have hpe : pn (P_q P) (fun x => max 1 (V x)) (k + 1) = pn (P_q P) (fun x => max 1 (V x)) k + (if P_q P k = max 1 (V k) then 0 else 1) := rfl
      have eg : ∀ rec, gX9_profile_4 rec s (nI (pn (P_q P) (fun x => max 1 (V x)) k)) (nI k) = if P_q P k = max 1 (V k) then rec (s, nI (pn (P_q P) (fun x => max 1 (V x)) k), nI (k + 1)) else rec (upm s (4 + 5 * k) (upd (s (4 + 5 * k)) 9 (nI (max 1 (V k)))), nI (pn (P_q P) (fun x => max 1 (V x)) k + 1), nI (k + 1)) := fun rec => by
        unfold gX9_profile_4
        simp (disch := omega) only [obs, bd, jn, bn2, un2, bn3, un3, bns, nI_1, nI_clamp, gN, gN0, gN1, gN2, gN3, nI_leI, nI_ltI, nI_eq, li_le, li_lt, le_li, lt_li, eq_li, li_eq, li_mul, mul_li, add_li, nI_add, m_has, c_has, hI_0, bI_0, h12, h122, if_neg, mx1k hV, h9]
      by_cases q : P_q P k = max 1 (V k)
      · refine ⟨s, nI (pn (P_q P) (fun x => max 1 (V x)) k), fun rec => (eg rec).trans (if_pos q), j1, by rw [hpe, if_pos q]; rfl, j2, j3, fun c hc => ?_⟩
        rw [j4 c hc]
        by_cases w : c = k
        · subst w; rw [if_neg (by omega), if_pos (by omega), q]
        · by_cases w2 : c < k
          · rw [if_pos w2, if_pos (by omega)]
          · rw [if_neg w2, if_neg (by omega)]
      · refine ⟨upm s (4 + 5 * k) (upd (s (4 + 5 * k)) 9 (nI (max 1 (V k)))), nI (pn (P_q P) (fun x => max 1 (V x)) k + 1), fun rec => (eg rec).trans (if_neg q), fun j hj => (upm_n (by omega)).trans (j1 j hj), by rw [hpe, if_neg q], fun c j a1 a2 a3 => (upm_n (by omega)).trans (j2 c j a1 a2 a3), fun c i a1 a2 => ?_, fun c hc => ?_⟩
        · by_cases w : c = k
          · subst w; rw [upm_s, upd_a, if_neg a2]; exact j3 c i a1 a2
          · rw [upm_n (by omega)]; exact j3 c i a1 a2
        · by_cases w : c = k
          · subst w; rw [upm_s, upd_a, if_pos rfl, if_pos (by omega)]
          · rw [upm_n (by omega), j4 c hc]
            by_cases w2 : c < k
            · rw [if_pos w2, if_pos (by omega)]
            · rw [if_neg w2, if_neg (by omega)]
    · rintro s x ⟨j1, rfl, j2, j3, j4⟩
      refine ⟨(s, nI (pn (P_q P) (fun x => max 1 (V x)) (P_n P))), fun rec => ?_, j1, rfl, j2, j3, j4⟩
      have h12 : s 1 2 = nI (P_n P) := by rw [j1 1 (by omega)]; exact c1
      show gX9_profile_4 rec s _ (nI (P_n P)) = _
      unfold gX9_profile_4
      simp (disch := omega) only [obs, bd, jn, bn2, un2, bn3, un3, bns, nI_1, nI_clamp, gN, gN0, gN1, gN2, gN3, nI_leI, nI_ltI, nI_eq, li_le, li_lt, le_li, lt_li, eq_li, li_eq, li_mul, mul_li, add_li, nI_add, m_has, c_has, hI_0, bI_0, h12, if_pos]
  have rx' : x = nI (pn (P_q P) (fun x => max 1 (V x)) (P_n P)) := rx
  subst rx'
  replace f : ∀ j, j < 4 ∨ 43 < j → s j = σ j := f
  replace r1 : ∀ c j, c < 8 → 1 ≤ j → j ≤ 4 → s (4 + 5 * c + j) = σ (4 + 5 * c + j) := r1
  replace r2 : ∀ c i, c < 8 → i ≠ 9 → s (4 + 5 * c) i = σ (4 + 5 * c) i := r2
  replace r3 : ∀ c, c < 8 → s (4 + 5 * c) 9 = nI (if c < P_n P then max 1 (V c) else P_q P c) := r3
  refine ⟨s, e, f, CP_if.mpr ⟨by rw [f 1 (by omega)]; exact c1, fun v hv => by rw [f _ (by omega)]; exact c2 v hv, fun b hb' => ?_⟩⟩
  obtain ⟨d4, d5, d6, d7, d8, d9, d10⟩ := c3 b hb'
  refine ⟨(r2 b 4 hb' (by omega)).trans d4, (r2 b 5 hb' (by omega)).trans d5, (r2 b 6 hb' (by omega)).trans d6, (r2 b 7 hb' (by omega)).trans d7, (r2 b 8 hb' (by omega)).trans d8, r3 b hb', fun i hi => ?_⟩
  rw [show s (4 + 5 * b + 1) = _ from r1 b 1 hb' (by omega) (by omega), show s (4 + 5 * b + 2) = _ from r1 b 2 hb' (by omega) (by omega), show s (4 + 5 * b + 3) = _ from r1 b 3 hb' (by omega) (by omega), show s (4 + 5 * b + 4) = _ from r1 b 4 hb' (by omega) (by omega)]
  exact d10 i hi
theorem m_prof {τ : Mm} {P : Pg} {V : Nat → Nat} (hw : WP P) (hm : MP τ 124 1 P) (hv : ∀ x, x < 8 → V x ≤ 1000 ∧ τ 151 x = nI (V x)) : ∃ τ', qX10_profile_4 FU (τ, 0, 0) = some (τ', nI (pn (P_q P) (fun x => max 1 (V x)) (P_n P))) ∧ Fq [129] τ τ' ∧ MP τ' 124 1 (Pp P (fun x => max 1 (V x))) := by
  have hn := hw.1.2
  obtain ⟨c1, c2, c3⟩ := MP_if.mp hm
  obtain ⟨⟨s, x⟩, e, ⟨f, rx, r3⟩⟩ : ∃ r, qX10_profile_4 FU (τ, 0, 0) = some r ∧ (Fq [129] τ r.1 ∧ r.2 = nI (pn (P_q P) (fun x => max 1 (V x)) (P_n P)) ∧ ∀ c, c < 8 → r.1 129 c = nI (if c < P_n P then max 1 (V c) else P_q P c)) := by
    refine lp_inv3 (fun k s x => Fq [129] τ s ∧ x = nI (pn (P_q P) (fun x => max 1 (V x)) k) ∧ ∀ c, c < 8 → s 129 c = nI (if c < k then max 1 (V c) else P_q P c)) (P_n P) _ ?_ ?_ ⟨Fq_rf, rfl, fun c hc => by rw [if_neg (by omega)]; exact (c3 c hc).2.2.2.2.2.1⟩ (fu (by omega))
    · rintro k s x hk ⟨j1, rfl, j4⟩
      have h12 : s 123 1 = nI (P_n P) := by rw [j1 123 (by simp)]; exact c1
      have h122 : s 151 k = nI (V k) := by rw [j1 151 (by simp)]; exact (hv k (by omega)).2
      have hV := (hv k (by omega)).1
      have h9 : s 129 k = nI (P_q P k) := by rw [j4 k (by omega), if_neg (by omega)]
      have hq := (hw.2.2.2.2.2.2.1 k (by omega)).2
      have hp := @pn_le (P_q P) (fun x => max 1 (V x)) k
      have hpe : pn (P_q P) (fun x => max 1 (V x)) (k + 1) = pn (P_q P) (fun x => max 1 (V x)) k + (if P_q P k = max 1 (V k) then 0 else 1) := rfl
      refine ⟨upm s 129 (upd (s 129) k (nI (max 1 (V k)))), nI (pn (P_q P) (fun x => max 1 (V x)) (k + 1)), fun rec => ?_, j1.up (by simp), rfl, fun c hc => ?_⟩
      · show gX10_profile_4 rec s (nI (pn (P_q P) (fun x => max 1 (V x)) k)) (nI k) = _
        unfold gX10_profile_4
        simp (disch := omega) only [obs, bd, jn, bn2, un2, bn3, un3, bns, nI_1, nI_clamp, gN, gN0, gN1, gN2, gN3, nI_leI, nI_ltI, nI_eq, li_le, li_lt, le_li, lt_li, eq_li, li_eq, li_mul, mul_li, add_li, nI_add, m_has, c_has, hI_0, bI_0, h12, h122, if_neg, mx1k hV, h9]
        rw [hpe]
        by_cases q : P_q P k = max 1 (V k)
        · rw [if_pos q.symm, if_pos q]
        · rw [if_neg (fun r => q r.symm), if_neg q]
      · rw [upm_s, upd_a]
        by_cases w : c = k
        · subst w; rw [if_pos rfl, if_pos (by omega)]
        · rw [if_neg w, j4 c hc]
          by_cases w2 : c < k
          · rw [if_pos w2, if_pos (by omega)]
          · rw [if_neg w2, if_neg (by omega)]
    · rintro s x ⟨j1, rfl, j4⟩
      refine ⟨(s, nI (pn (P_q P) (fun x => max 1 (V x)) (P_n P))), fun rec => ?_, j1, rfl, j4⟩
      have h12 : s 123 1 = nI (P_n P) := by rw [j1 123 (by simp)]; exact c1
      show gX10_profile_4 rec s _ (nI (P_n P)) = _
      unfold gX10_profile_4
      simp (disch := omega) only [obs, bd, jn, bn2, un2, bn3, un3, bns, nI_1, nI_clamp, gN, gN0, gN1, gN2, gN3, nI_leI, nI_ltI, nI_eq, li_le, li_lt, le_li, lt_li, eq_li, li_eq, li_mul, mul_li, add_li, nI_add, m_has, c_has, hI_0, bI_0, h12, if_pos]
  have rx' : x = nI (pn (P_q P) (fun x => max 1 (V x)) (P_n P)) := rx
  subst rx'
  replace f : Fq [129] τ s := f
  replace r3 : ∀ c, c < 8 → s 129 c = nI (if c < P_n P then max 1 (V c) else P_q P c) := r3
  refine ⟨s, e, f, MP_if.mpr ⟨by rw [f 123 (by simp)]; exact c1, fun v hv => by rw [f _ (by simp)]; exact c2 v hv, fun b hb' => ?_⟩⟩
  obtain ⟨d4, d5, d6, d7, d8, d9, d10⟩ := c3 b hb'
  refine ⟨by rw [f _ (by simp)]; exact d4, by rw [f _ (by simp)]; exact d5, by rw [f _ (by simp)]; exact d6, by rw [f _ (by simp)]; exact d7, by rw [f _ (by simp)]; exact d8, r3 b hb', fun i hi => ?_⟩
  rw [f _ (by simp), f _ (by simp), f _ (by simp), f _ (by simp)]
  exact d10 i hi
theorem me_profile {σ : Mm} (h : IV σ) : METP fX9_profile fX10_profile σ := by
  obtain ⟨P, hP⟩ := h
  have hw := hP.1
  have hV : ∀ x, x < 8 → (σ 122 x).toNatClampNeg ≤ 1000 ∧ σ 122 x = nI (σ 122 x).toNatClampNeg ∧ σ 151 x = nI (σ 122 x).toNatClampNeg := fun x hx => by
    obtain ⟨n, n1, n2, n3⟩ := hP.2.2.2.2.2.2.1.2 x hx
    rw [n2, nI_clamp (by omega)]; exact ⟨n1, rfl, n3⟩
  obtain ⟨s, e, f, c⟩ := c_prof (V := fun x => (σ 122 x).toNatClampNeg) hw hP.2.1 (fun x hx => ⟨(hV x hx).1, (hV x hx).2.1⟩)
  have f2 : ∀ j, j = 0 ∨ 44 ≤ j → s j = σ j := fun j hj => f j (by omega)
  have g : ∀ j, 44 ≤ j → pc0 s j = σ j := fun j hj => (pc0_n (by omega)).trans (f j (by omega))
  obtain ⟨t, e2, f3, m⟩ := m_prof (τ := pc0 s) (V := fun x => (σ 122 x).toNatClampNeg) hw (MP_cg (by rw [g 123 (by omega)]) (fun j _ _ => g j (by omega)) hP.2.2.1) (fun x hx => ⟨(hV x hx).1, by rw [g 151 (by omega)]; exact (hV x hx).2.2⟩)
  refine ⟨nI (pn (P_q P) (fun x => max 1 (σ 122 x).toNatClampNeg) (P_n P)), pc0 s, s3 t 14 0, ?_, ?_, _, mu_iv (τ := pc0 s) hP (Pp_W hw (fun x hx => ?_)) c f2 (fun _ _ => rfl) (s3_MP m (by omega)) (fun j hj => (s3_n (by omega)).trans (f3 j (by simp; omega))) (fun i _ _ h14 => by rw [s3_i h14, f3 123 (by simp)]) s3_s⟩
  · unfold fX9_profile
    rw [e]
    simp only [bn2, obs, un2]
    rw [c_pc]
    rfl
  · unfold fX10_profile
    rw [e2]
    simp only [bn2, obs, un2]
    rfl
  · have := (hV x hx).1
    show 1 ≤ max 1 (σ 122 x).toNatClampNeg ∧ max 1 (σ 122 x).toNatClampNeg ≤ 9999
    omega
