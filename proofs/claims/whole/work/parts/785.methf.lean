/-! changing the program -/
def pc0 (σ : Mm) : Mm := upm (upm σ 0 (upd (σ 0) 12 0)) 0 (upd (upm σ 0 (upd (σ 0) 12 0) 0) 13 0)
theorem c_pc {σ : Mm} : fX9_programChanged σ = some (pc0 σ) := rfl
theorem pc0_n {σ : Mm} {j : Nat} (h : j ≠ 0) : pc0 σ j = σ j := (upm_n h).trans (upm_n h)
theorem pc0_12 {σ : Mm} : pc0 σ 0 12 = 0 := by
  unfold pc0
  rw [upm_s, upd_a, if_neg (by omega), upm_s, upd_a, if_pos rfl]
theorem pc0_13 {σ : Mm} : pc0 σ 0 13 = 0 := by
  unfold pc0
  rw [upm_s, upd_a, if_pos rfl]
theorem pc0_11 {σ : Mm} : pc0 σ 0 11 = σ 0 11 := by
  unfold pc0
  rw [upm_s, upd_a, if_neg (by omega), upm_s, upd_a, if_neg (by omega)]
theorem mu_iv {P P' : Pg} {σ σ' τ τ' : Mm} (hP : IVp P σ) (hw : WP P') (hc : CP σ' 1 4 P') (hk : ∀ j, j = 0 ∨ 44 ≤ j → σ' j = σ j) (hτ : ∀ j, j ≠ 170 → τ j = pc0 σ' j) (g2 : MP τ' 124 1 P') (g3 : ∀ j, j < 123 ∨ 134 < j → τ' j = τ j) (g5 : ∀ i, i ≠ 0 → i ≠ 1 → i ≠ 14 → τ' 123 i = τ 123 i) (h14 : τ' 123 14 = 0) : IVp P' τ' := by
  have t : ∀ j, 44 ≤ j → j ≠ 170 → τ j = σ j := fun j a b => (hτ j b).trans ((pc0_n (by omega)).trans (hk j (Or.inr a)))
  have t2 : ∀ j, (44 ≤ j ∧ j < 123) ∨ (134 < j ∧ j ≠ 170) → τ' j = σ j := fun j hj => (g3 j (by omega)).trans (t j (by omega) (by omega))
  have e0 : τ' 0 = pc0 σ' 0 := (g3 0 (by omega)).trans (hτ 0 (by omega))
  have t3 : ∀ i, i = 2 ∨ i = 43 → τ' 123 i = σ 123 i := fun i hi => by rw [g5 i (by omega) (by omega) (by omega), t 123 (by omega) (by omega)]
  refine IV_mu hP hw (CP_cg (fun j a b => ?_) hc) g2 (by rw [e0]; exact pc0_12) (by rw [e0]; exact pc0_13) h14 (fun j hj => t2 j (by omega)) (by rw [e0, pc0_11, hk 0 (Or.inl rfl)]) (t3 2 (by omega)) (RDR_cg (by rw [t2 113 (by omega)]) (t3 43 (by omega)) (t2 114 (by omega)) (t2 154 (by omega)) hP.2.2.2.2.2.2.2)
  rw [g3 j (by omega), hτ j (by omega), pc0_n (by omega)]
theorem me_mu {f : Mm → Option Rx} {g : Mm → Option (Int32 × Mm)} {es : List Nat} {P : Pg} {σ : Mm} (hP : IVp P σ) (σ' : Mm) (a : Int32) (hf : f σ = some (0, a, pc0 σ')) (P' : Pg) (hw : WP P') (hc : CP σ' 1 4 P') (hk : ∀ j, j = 0 ∨ 44 ≤ j → σ' j = σ j) (hg : ∀ τ, (∀ j, 44 ≤ j → j ≠ 170 → τ j = σ j) → ∃ τ', g τ = some (a, s3 τ' 14 0) ∧ MP τ' 124 1 P' ∧ (∀ j, j < 123 ∨ 134 < j → τ' j = τ j) ∧ τ' 123 0 = 0 ∧ ∀ i, i ≠ 0 → i ≠ 1 → τ' 123 i = τ 123 i) : METH f g es σ := me_ok hf (fun τ hτ => by
  obtain ⟨τ', g1, g2, g3, g4, g5⟩ := hg τ (fun j a b => (hτ j b).trans ((pc0_n (by omega)).trans (hk j (Or.inr a))))
  exact ⟨s3 τ' 14 0, g1, by rw [s3_n (by omega), g3 170 (by omega)], by rw [s3_i (by omega)]; exact g4, P', mu_iv hP hw hc hk hτ (s3_MP g2 (by omega)) (fun j hj => (s3_n (by omega)).trans (g3 j hj)) (fun i a b c => (s3_i c).trans (g5 i a b)) s3_s⟩)
theorem mu_M {P : Pg} {σ τ : Mm} (hP : IVp P σ) (hτ : ∀ j, 44 ≤ j → j ≠ 170 → τ j = σ j) : MP (s3 τ 0 0) 124 1 P := s3_MP (MP_cg (by rw [hτ 123 (by omega) (by omega)]) (fun j _ _ => hτ j (by omega) (by omega)) hP.2.2.1) (by omega)
theorem me_setFrequency {σ : Mm} (h : IV σ) (x y : Int32) : METH (fun σ => fX9_setFrequency σ x y) (fun τ => fX10_setFrequency τ x y) [2, 1] σ := by
  obtain ⟨P, hP⟩ := h
  have hw := hP.1
  have hn := hw.1.2
  rcases ix2 x (n := P_n P) (by omega) with hx | ⟨b, hb', rfl⟩
  · refine me_f0 hP 2 1 (by decide) (by decide) rfl ?_ (fun τ hτ => ?_)
    · show fX9_setFrequency σ x y = _
      unfold fX9_setFrequency
      rw [c_rBn hw hP.2.1 hx, bnTe (by decide)]
    · show fX10_setFrequency τ x y = _
      unfold fX10_setFrequency
      simp only [bd]
      rw [up0, m_iBn hw (iv_n0 hτ) hx]
      rfl
  · rcases ix1 y (n := 9999) (by omega) with hy | ⟨w, h1, hw2, rfl⟩
    · refine me_f0 hP 1 2 (by decide) (by decide) rfl ?_ (fun τ hτ => ?_)
      · show fX9_setFrequency σ (nI b) y = _
        unfold fX9_setFrequency
        rw [c_rBy hw hP.2.1 hb', bnT0]
        by_cases a : y < 1
        · rw [if_pos a]
        · rw [if_neg a, if_neg (show ¬ y ≤ 9999 from le_bad1 (n := 9999) (by omega) hy a)]
      · show fX10_setFrequency τ (nI b) y = _
        unfold fX10_setFrequency
        simp only [bd]
        rw [up0, m_iBy hw (iv_n0 hτ) hb']
        simp only [obs]
        rw [if_neg (by decide), show fX10_in (s3 τ 0 0) y 1 9999 = _ from m_in1 (m := 9999) (by omega) y, if_pos hy]
        rfl
    · obtain ⟨c4, c5, c6, c7, c8, c9, c10⟩ := (CP_if.mp hP.2.1).2.2 b (by omega)
      obtain ⟨u1, u2, u3, u4, u5, u6, u7⟩ := (WP_if.mp hw).2 b (by omega)
      refine me_mu hP (upm σ (4 + 5 * b) (upd (σ (4 + 5 * b)) 9 (nI w))) (nI (P_q P b)) ?_ (sB P b (P_m P b) (P_e P b) (P_v P b) (P_f P b) (P_s P b) w (P_k P b) (P_t P b) (P_a P b) (P_b P b)) (sB_W hw ⟨u1, u2, u3, u4, u5, ⟨h1, hw2⟩, u7⟩) ?_ (fun j hj => upm_n (by omega)) (fun τ hτ => ?_)
      · show fX9_setFrequency σ (nI b) (nI w) = _
        unfold fX9_setFrequency
        rw [c_rBy hw hP.2.1 hb', bnT0, if_neg (ge1 h1 (by omega)), if_pos (show nI w ≤ 9999 from (nI_leI (b := 9999) (by omega) (by omega)).mpr hw2)]
        simp (disch := omega) only [gN, nI_clamp, bd, c_pc, obs, c9]
      · refine sB_C hP.2.1 (by rw [upm_n (by omega)]) (upm_n (by omega)) (fun j _ _ hj => upm_n (by omega)) ⟨?_, ?_, ?_, ?_, ?_, ?_, fun i hi => ?_⟩
        · rw [upm_s, upd_a, if_neg (by omega)]; exact c4
        · rw [upm_s, upd_a, if_neg (by omega)]; exact c5
        · rw [upm_s, upd_a, if_neg (by omega)]; exact c6
        · rw [upm_s, upd_a, if_neg (by omega)]; exact c7
        · rw [upm_s, upd_a, if_neg (by omega)]; exact c8
        · rw [upm_s, upd_a, if_pos rfl]
        · rw [upm_n (by omega), upm_n (by omega), upm_n (by omega), upm_n (by omega)]; exact c10 i hi
      · have hm := mu_M hP hτ
        obtain ⟨m0, m1, m2, m3, m4, m5, m6⟩ := (MP_if.mp hm).2.2 b (by omega)
        refine ⟨upm (s3 τ 0 0) 129 (upd (s3 τ 0 0 129) b (nI w)), ?_, sB_M hw (by omega) hm (by rw [upm_n (by omega)]) (upm_n (by omega)) (fun j c hj hc => ?_) (fun j i h6 h10 hi => by rw [upm_n (by omega)]) ⟨?_, ?_, ?_, ?_, ?_, ?_, fun i hi => ?_⟩, fun j hj => by rw [upm_n (by omega), s3_n (by omega)], by rw [upm_n (by omega)]; exact s3_s, fun i h0 h1 => by rw [upm_n (by omega), s3_i h0]⟩
        · show fX10_setFrequency τ (nI b) (nI w) = _
          unfold fX10_setFrequency
          simp only [bd]
          rw [up0, m_iBy hw hm.1 hb']
          simp only [obs]
          rw [if_neg (by decide), show fX10_in (s3 τ 0 0) (nI w) 1 9999 = _ from m_in1 (m := 9999) (by omega) (nI w), if_neg (nx1 h1 hw2 (by omega))]
          simp only [obs]
          rw [if_neg (by decide)]
          have m5' : s3 τ 0 0 129 b = nI (P_q P b) := m5
          simp (disch := omega) only [gN, nI_clamp, m5']
          rfl
        · by_cases q : 124 + j = 129
          · rw [q, upm_s, upd_a, if_neg hc]
          · rw [upm_n q]
        · rw [upm_n (by omega)]; exact m0
        · rw [upm_n (by omega)]; exact m1
        · rw [upm_n (by omega)]; exact m2
        · rw [upm_n (by omega)]; exact m3
        · rw [upm_n (by omega)]; exact m4
        · show upm (s3 τ 0 0) 129 (upd (s3 τ 0 0 129) b (nI w)) 129 b = _
          rw [upm_s, upd_a, if_pos rfl]
        · rw [upm_n (by omega), upm_n (by omega), upm_n (by omega), upm_n (by omega)]; exact m6 i hi
theorem me_setInitial {σ : Mm} (h : IV σ) (x y : Int32) : METH (fun σ => fX9_setInitial σ x y) (fun τ => fX10_setInitial τ x y) [1] σ := by
  obtain ⟨P, hP⟩ := h
  have hw := hP.1
  rcases ix2 x (n := 12) (by omega) with hx | ⟨v, hv, rfl⟩
  · refine me_f0 hP 1 1 (by decide) (by decide) rfl ?_ (fun τ hτ => ?_)
    · show fX9_setInitial σ x y = _
      unfold fX9_setInitial
      rw [c_rVn hx, bnTe (by decide)]
    · show fX10_setInitial τ x y = _
      unfold fX10_setInitial
      simp only [bd]
      rw [up0, m_iVn hx]
      rfl
  · obtain ⟨c1, c2, c3⟩ := CP_if.mp hP.2.1
    let P' : Pg := (P_n P, P_m P, P_k P, P_t P, P_a P, P_b P, P_e P, P_v P, P_f P, P_s P, P_q P, ud (P_i P) v y)
    refine me_mu hP (upm σ 3 (upd (σ 3) v y)) (P_i P v) ?_ P' (WP_if.mpr (WP_if.mp hw)) (CP_if.mpr ⟨by rw [upm_n (by omega)]; exact c1, fun u hu => ?_, fun b hb' => BC_cg (fun j _ _ => upm_n (by omega)) (c3 b hb')⟩) (fun j hj => upm_n (by omega)) (fun τ hτ => ?_)
    · show fX9_setInitial σ (nI v) y = _
      unfold fX9_setInitial
      rw [c_rVy hv, bnT0]
      have : σ 3 v = P_i P v := c2 v hv
      simp (disch := omega) only [gN, nI_clamp, bd, c_pc, obs, this]
    · show upm σ 3 (upd (σ 3) v y) 3 u = ud (P_i P) v y u
      rw [upm_s, upd_a]
      by_cases q : u = v
      · rw [if_pos q, q, ud_s]
      · rw [if_neg q, ud_n q]; exact c2 u hu
    · have hm := mu_M hP hτ
      obtain ⟨m1, m2, m3⟩ := MP_if.mp hm
      refine ⟨upm (s3 τ 0 0) 134 (upd (s3 τ 0 0 134) v y), ?_, MP_if.mpr ⟨by rw [upm_n (by omega)]; exact m1, fun u hu => ?_, fun b hb' => MC_cg (fun j hj => by rw [upm_n (by omega)]) (fun j i _ _ _ => by rw [upm_n (by omega)]) (m3 b hb')⟩, fun j hj => by rw [upm_n (by omega), s3_n (by omega)], by rw [upm_n (by omega)]; exact s3_s, fun i h0 h1 => by rw [upm_n (by omega), s3_i h0]⟩
      · show fX10_setInitial τ (nI v) y = _
        unfold fX10_setInitial
        simp only [bd]
        rw [up0, m_iVy hv]
        simp only [obs]
        rw [if_neg (by decide)]
        have m2' : s3 τ 0 0 134 v = P_i P v := m2 v hv
        simp (disch := omega) only [gN, nI_clamp, m2']
        rfl
      · show upm (s3 τ 0 0) 134 (upd (s3 τ 0 0 134) v y) 134 u = ud (P_i P) v y u
        rw [upm_s, upd_a]
        by_cases q : u = v
        · rw [if_pos q, q, ud_s]
        · rw [if_neg q, ud_n q]; exact m2 u hu
theorem me_removeLast {σ : Mm} (h : IV σ) (x : Int32) : METH (fun σ => fX9_removeLast σ x) (fun τ => fX10_removeLast τ x) [2, 4] σ := by
  obtain ⟨P, hP⟩ := h
  have hw := hP.1
  have hn := hw.1.2
  rcases ix2 x (n := P_n P) (by omega) with hx | ⟨b, hb', rfl⟩
  · refine me_f0 hP 2 1 (by decide) (by decide) rfl ?_ (fun τ hτ => ?_)
    · show fX9_removeLast σ x = _
      unfold fX9_removeLast
      rw [c_rBn hw hP.2.1 hx, bnTe (by decide)]
    · show fX10_removeLast τ x = _
      unfold fX10_removeLast
      simp only [bd]
      rw [up0, m_iBn hw (iv_n0 hτ) hx]
      rfl
  · obtain ⟨c4, c5, c6, c7, c8, c9, c10⟩ := (CP_if.mp hP.2.1).2.2 b (by omega)
    obtain ⟨u1, u2, u3, u4, u5, u6, u7⟩ := (WP_if.mp hw).2 b (by omega)
    rcases Nat.eq_zero_or_pos (P_m P b) with e | e
    · refine me_f0 hP 4 2 (by decide) (by decide) rfl ?_ (fun τ hτ => ?_)
      · show fX9_removeLast σ (nI b) = _
        unfold fX9_removeLast
        rw [c_rBy hw hP.2.1 hb', bnT0]
        simp (disch := omega) only [gN, nI_clamp, bd, c4, e]
        rfl
      · have m3 : s3 τ 0 0 124 b = nI (P_m P b) := (s3_MP hτ.2.2.1 (by omega)).2.2.1 b (by omega)
        show fX10_removeLast τ (nI b) = _
        unfold fX10_removeLast
        simp only [bd]
        rw [up0, m_iBy hw (iv_n0 hτ) hb']
        simp only [obs]
        rw [if_neg (by decide)]
        simp (disch := omega) only [gN, nI_clamp, m3, e]
        rfl
    · have nz : ¬ nI (P_m P b) = 0 := fun q => by have : P_m P b = 0 := (eq_li (c := 0) (by decide) (by omega)).mp q; omega
      have sb : nI (P_m P b) - 1 = nI (P_m P b - 1) := sub_li (c := 1) e
      refine me_mu hP (upm σ (4 + 5 * b) (upd (σ (4 + 5 * b)) 4 (nI (P_m P b - 1)))) (nI (P_k P b (P_m P b - 1))) ?_ (sB P b (P_m P b - 1) (P_e P b) (P_v P b) (P_f P b) (P_s P b) (P_q P b) (P_k P b) (P_t P b) (P_a P b) (P_b P b)) (sB_W hw ⟨by omega, u2, u3, u4, u5, u6, fun i hi => u7 i (by omega)⟩) ?_ (fun j hj => upm_n (by omega)) (fun τ hτ => ?_)
      · show fX9_removeLast σ (nI b) = _
        unfold fX9_removeLast
        rw [c_rBy hw hP.2.1 hb', bnT0]
        simp (disch := omega) only [gN, nI_clamp, bd, c4, if_neg nz, sb, c_pc, obs, pc0_n, upm_s, upd_a, if_true]
        rw [upm_n (by omega), (c10 (P_m P b - 1) (by omega)).1]
      · refine sB_C hP.2.1 (by rw [upm_n (by omega)]) (upm_n (by omega)) (fun j _ _ hj => upm_n (by omega)) ⟨?_, ?_, ?_, ?_, ?_, ?_, fun i hi => ?_⟩
        · rw [upm_s, upd_a, if_pos rfl]
        · rw [upm_s, upd_a, if_neg (by omega)]; exact c5
        · rw [upm_s, upd_a, if_neg (by omega)]; exact c6
        · rw [upm_s, upd_a, if_neg (by omega)]; exact c7
        · rw [upm_s, upd_a, if_neg (by omega)]; exact c8
        · rw [upm_s, upd_a, if_neg (by omega)]; exact c9
        · rw [upm_n (by omega), upm_n (by omega), upm_n (by omega), upm_n (by omega)]; exact c10 i (by omega)
      · have hm := mu_M hP hτ
        obtain ⟨m0, m1, m2, m3, m4, m5, m6⟩ := (MP_if.mp hm).2.2 b (by omega)
        refine ⟨upm (s3 τ 0 0) 124 (upd (s3 τ 0 0 124) b (nI (P_m P b - 1))), ?_, sB_M hw (by omega) hm (by rw [upm_n (by omega)]) (upm_n (by omega)) (fun j c hj hc => ?_) (fun j i h6 h10 hi => by rw [upm_n (by omega)]) ⟨?_, ?_, ?_, ?_, ?_, ?_, fun i hi => ?_⟩, fun j hj => by rw [upm_n (by omega), s3_n (by omega)], by rw [upm_n (by omega)]; exact s3_s, fun i h0 h1 => by rw [upm_n (by omega), s3_i h0]⟩
        · show fX10_removeLast τ (nI b) = _
          unfold fX10_removeLast
          simp only [bd]
          rw [up0, m_iBy hw hm.1 hb']
          simp only [obs]
          rw [if_neg (by decide)]
          have e1 : ∀ s : Mm, upm s 123 (upd (s 123) 14 0) = s3 s 14 0 := fun _ => rfl
          simp (disch := omega) only [gN, nI_clamp, m0, if_neg nz, sb, e1, s3_n, upm_s, upd_a, if_true, li_mul, nI_add]
          rw [upm_n (by omega), s3_n (by omega)]
          have : s3 τ 0 0 130 (8 * b + (P_m P b - 1)) = nI (P_k P b (P_m P b - 1)) := (m6 (P_m P b - 1) (by omega)).1
          rw [s3_n (by omega)] at this
          rw [this]
        · by_cases q : 124 + j = 124
          · rw [q, upm_s, upd_a, if_neg hc]
          · rw [upm_n q]
        · rw [upm_s, upd_a, if_pos rfl]
        · rw [upm_n (by omega)]; exact m1
        · rw [upm_n (by omega)]; exact m2
        · rw [upm_n (by omega)]; exact m3
        · rw [upm_n (by omega)]; exact m4
        · rw [upm_n (by omega)]; exact m5
        · rw [upm_n (by omega), upm_n (by omega), upm_n (by omega), upm_n (by omega)]; exact m6 i (by omega)
