/-! the end of a block -/
def FN (σ : Mm) (k : Nat) (x1 x2 x3 x4 : Int32) : Mm := upm σ k (upd (upd (upd (upd (σ k) 5 x1) 6 (if x1 = 0 then -1 else x2)) 7 (if x1 = 2 then -1 else x3)) 8 (if x1 = 1 then x4 else -1))
theorem c_FN {σ : Mm} {k : Nat} {x1 x2 x3 x4 : Int32} : fX0_finish σ k x1 x2 x3 x4 = some (FN σ k x1 x2 x3 x4) := c_finish
def EN (τ : Mm) (b : Nat) (x1 x2 x3 x4 : Int32) : Mm := upm (upm (upm (upm τ 125 (upd (τ 125) b x1)) 126 (upd (τ 126) b x2)) 127 (upd (τ 127) b x3)) 128 (upd (τ 128) b x4)
theorem m_EN {τ : Mm} {b : Nat} {x1 x2 x3 x4 : Int32} (hb' : b < 8) : fX10_ends τ (nI b) x1 x2 x3 x4 = some (EN τ b x1 x2 x3 x4) := by
  unfold fX10_ends
  simp (disch := omega) only [gN, nI_clamp, bd]
  rfl
theorem EN_n {τ : Mm} {b j : Nat} {x1 x2 x3 x4 : Int32} (h : j < 125 ∨ 128 < j) : EN τ b x1 x2 x3 x4 j = τ j := by
  unfold EN
  rw [upm_n (by omega), upm_n (by omega), upm_n (by omega), upm_n (by omega)]
theorem EN_c {τ : Mm} {b j c : Nat} {x1 x2 x3 x4 : Int32} (h : c ≠ b) : EN τ b x1 x2 x3 x4 j c = τ j c := by
  unfold EN
  simp only [upm_a]
  by_cases q1 : j = 128
  · subst q1; exact (upd_a ..).trans (if_neg h)
  · by_cases q2 : j = 127
    · subst q2; exact (upd_a ..).trans (if_neg h)
    · by_cases q3 : j = 126
      · subst q3; exact (upd_a ..).trans (if_neg h)
      · by_cases q4 : j = 125
        · subst q4; exact (upd_a ..).trans (if_neg h)
        · rw [if_neg q1, if_neg q2, if_neg q3, if_neg q4]
theorem EN_v {τ : Mm} {b : Nat} {x1 x2 x3 x4 : Int32} : EN τ b x1 x2 x3 x4 125 b = x1 ∧ EN τ b x1 x2 x3 x4 126 b = x2 ∧ EN τ b x1 x2 x3 x4 127 b = x3 ∧ EN τ b x1 x2 x3 x4 128 b = x4 := by
  unfold EN
  refine ⟨?_, ?_, ?_, ?_⟩
  · rw [upm_n (by omega), upm_n (by omega), upm_n (by omega), upm_s, upd_a, if_pos rfl]
  · rw [upm_n (by omega), upm_n (by omega), upm_s, upd_a, if_pos rfl]
  · rw [upm_n (by omega), upm_s, upd_a, if_pos rfl]
  · rw [upm_s, upd_a, if_pos rfl]
theorem FN_v {σ : Mm} {k : Nat} {x1 x2 x3 x4 : Int32} : FN σ k x1 x2 x3 x4 k 5 = x1 ∧ FN σ k x1 x2 x3 x4 k 6 = (if x1 = 0 then -1 else x2) ∧ FN σ k x1 x2 x3 x4 k 7 = (if x1 = 2 then -1 else x3) ∧ FN σ k x1 x2 x3 x4 k 8 = (if x1 = 1 then x4 else -1) ∧ ∀ i, i < 5 ∨ 8 < i → FN σ k x1 x2 x3 x4 k i = σ k i := by
  unfold FN
  rw [upm_s]
  simp only [upd_a]
  refine ⟨?_, ?_, ?_, ?_, fun i hi => ?_⟩
  · rw [if_neg (by omega), if_neg (by omega), if_neg (by omega), if_pos trivial]
  · rw [if_neg (by omega), if_neg (by omega), if_pos trivial]
  · rw [if_neg (by omega), if_pos trivial]
  · rw [if_pos trivial]
  · rw [if_neg (by omega), if_neg (by omega), if_neg (by omega), if_neg (by omega)]
/-- end codes -/
def EV (n e v f s : Nat) (x1 x2 x3 x4 : Int32) : Prop := e ≤ 2 ∧ x1 = nI e ∧ (e ≠ 0 → v < 12 ∧ x2 = nI v) ∧ (e ≠ 2 → f < n ∧ x3 = nI f) ∧ (e = 1 → s < n ∧ x4 = nI s)
theorem EV_6 {n e v f s : Nat} {x1 x2 x3 x4 : Int32} (h : EV n e v f s x1 x2 x3 x4) : (if x1 = 0 then -1 else x2) = (if e = 0 then -1 else nI v) ∧ (if x1 = 2 then -1 else x3) = (if e = 2 then -1 else nI f) ∧ (if x1 = 1 then x4 else -1) = (if e = 1 then nI s else -1) := by
  obtain ⟨h0, h1, h2, h3, h4⟩ := h
  have e3 : e = 0 ∨ e = 1 ∨ e = 2 := by omega
  rcases e3 with q | q | q
  · subst q
    obtain ⟨-, e2⟩ := h3 (by omega)
    rw [h1, e2]; exact ⟨rfl, rfl, rfl⟩
  · subst q
    obtain ⟨-, e1⟩ := h2 (by omega)
    obtain ⟨-, e2⟩ := h3 (by omega)
    obtain ⟨-, e3⟩ := h4 (by omega)
    rw [h1, e1, e2, e3]; exact ⟨rfl, rfl, rfl⟩
  · subst q
    obtain ⟨-, e1⟩ := h2 (by omega)
    rw [h1, e1]; exact ⟨rfl, rfl, rfl⟩
theorem se_ok {P : Pg} {σ : Mm} {b e v f s : Nat} {x2 x3 x4 x5 : Int32} (hP : IVp P σ) (hb' : b < P_n P) (hE : EV (P_n P) e v f s x2 x3 x4 x5) (eC : fX9_setEnd σ (nI b) x2 x3 x4 x5 = some (0, σ (4 + 5 * b) 5, pc0 (FN σ (4 + 5 * b) x2 x3 x4 x5))) (eM : ∀ τ, MP (s3 τ 0 0) 124 1 P → fX10_setEnd τ (nI b) x2 x3 x4 x5 = some (s3 τ 0 0 125 b, s3 (EN (s3 τ 0 0) b x2 x3 x4 x5) 14 0)) : METH (fun σ => fX9_setEnd σ (nI b) x2 x3 x4 x5) (fun τ => fX10_setEnd τ (nI b) x2 x3 x4 x5) [2, 1] σ := by
  have hw := hP.1
  have hn := hw.1.2
  obtain ⟨c4, c5, c6, c7, c8, c9, c10⟩ := (CP_if.mp hP.2.1).2.2 b (by omega)
  obtain ⟨u1, u2, u3, u4, u5, u6, u7⟩ := (WP_if.mp hw).2 b (by omega)
  obtain ⟨v5, v6, v7, v8, vo⟩ := @FN_v σ (4 + 5 * b) x2 x3 x4 x5
  obtain ⟨w6, w7, w8⟩ := EV_6 hE
  have fo : ∀ j, j ≠ 4 + 5 * b → FN σ (4 + 5 * b) x2 x3 x4 x5 j = σ j := fun j hj => upm_n hj
  refine me_mu hP (FN σ (4 + 5 * b) x2 x3 x4 x5) (nI (P_e P b)) (by rw [← c5]; exact eC) (sB P b (P_m P b) e v f s (P_q P b) (P_k P b) (P_t P b) (P_a P b) (P_b P b)) (sB_W hw ⟨u1, hE.1, fun q => (hE.2.2.1 q).1, fun q => (hE.2.2.2.1 q).1, fun q => (hE.2.2.2.2 q).1, u6, u7⟩) (sB_C hP.2.1 (by rw [fo 1 (by omega)]) (fo 3 (by omega)) (fun j _ _ hj => fo j (by omega)) ⟨?_, ?_, ?_, ?_, ?_, ?_, fun i hi => ?_⟩) (fun j hj => fo j (by omega)) (fun τ hτ => ?_)
  · rw [vo 4 (by omega)]; exact c4
  · rw [v5]; exact hE.2.1
  · rw [v6]; exact w6
  · rw [v7]; exact w7
  · rw [v8]; exact w8
  · rw [vo 9 (by omega)]; exact c9
  · rw [fo _ (by omega), fo _ (by omega), fo _ (by omega), fo _ (by omega)]; exact c10 i hi
  · have hm := mu_M hP hτ
    obtain ⟨m0, m1, m2, m3, m4, m5, m6⟩ := (MP_if.mp hm).2.2 b (by omega)
    obtain ⟨n1, n2, n3, n4⟩ := @EN_v (s3 τ 0 0) b x2 x3 x4 x5
    refine ⟨EN (s3 τ 0 0) b x2 x3 x4 x5, ?_, sB_M hw (by omega) hm (by rw [EN_n (by omega)]) (EN_n (by omega)) (fun j c hj hc => EN_c hc) (fun j i h6 h10 hi => by rw [EN_n (by omega)]) ⟨?_, ?_, fun q => ?_, fun q => ?_, fun q => ?_, ?_, fun i hi => ?_⟩, fun j hj => by rw [EN_n (by omega), s3_n (by omega)], by rw [EN_n (by omega)]; exact s3_s, fun i h0 h1 => by rw [EN_n (by omega), s3_i h0]⟩
    · rw [eM τ hm]
      have : s3 τ 0 0 125 b = nI (P_e P b) := m1
      rw [this]
    · rw [EN_n (by omega)]; exact m0
    · rw [← hE.2.1]; exact n1
    · rw [← (hE.2.2.1 q).2]; exact n2
    · rw [← (hE.2.2.2.1 q).2]; exact n3
    · rw [← (hE.2.2.2.2 q).2]; exact n4
    · rw [EN_n (by omega)]; exact m5
    · rw [EN_n (by omega), EN_n (by omega), EN_n (by omega), EN_n (by omega)]; exact m6 i hi
theorem me_setEnd {σ : Mm} (h : IV σ) (x1 x2 x3 x4 x5 : Int32) : METH (fun σ => fX9_setEnd σ x1 x2 x3 x4 x5) (fun τ => fX10_setEnd τ x1 x2 x3 x4 x5) [2, 1] σ := by
  obtain ⟨P, hP⟩ := h
  have hw := hP.1
  have hn := hw.1.2
  rcases ix2 x1 (n := P_n P) (by omega) with hx | ⟨b, hb', rfl⟩
  · refine me_f0 hP 2 1 (by decide) (by decide) rfl ?_ (fun τ hτ => ?_)
    · show fX9_setEnd σ x1 x2 x3 x4 x5 = _
      unfold fX9_setEnd
      rw [c_rBn hw hP.2.1 hx, bnTe (by decide)]
    · show fX10_setEnd τ x1 x2 x3 x4 x5 = _
      unfold fX10_setEnd
      simp only [bd]
      rw [up0, m_iBn hw (iv_n0 hτ) hx]
      rfl
  · have eC : fX9_setEnd σ (nI b) x2 x3 x4 x5 = (let j8 : Mm → Option Rx := fun σ7 => some (0, σ7 (4 + 5 * b) 5, pc0 (FN σ7 (4 + 5 * b) x2 x3 x4 x5)); let j6 : Mm → Option Rx := fun σ5 => if x2 < 0 then some (1, 0, σ5) else if x2 ≤ 2 then (if x2 = 0 then j8 σ5 else bnT (fX9_requireVariable σ5 x3) fun _ σ15 => j8 σ15) else some (1, 0, σ5); let j4 : Mm → Option Rx := fun σ3 => if x2 = 1 then bnT (fX9_requireBlock σ3 x5) fun _ σ20 => j6 σ20 else j6 σ3; if x2 = 0 then bnT (fX9_requireBlock σ x4) fun _ σ23 => j4 σ23 else if x2 = 1 then bnT (fX9_requireBlock σ x4) fun _ σ25 => j4 σ25 else j4 σ) := by
      unfold fX9_setEnd
      rw [c_rBy hw hP.2.1 hb', bnT0]
      simp (disch := omega) only [gN, nI_clamp, bd, c_FN, c_pc, obs]
      rfl
    have eM : ∀ τ, MP (s3 τ 0 0) 124 1 P → fX10_setEnd τ (nI b) x2 x3 x4 x5 = (let τ0 := s3 τ 0 0; let j10 : Option (Int32 × Mm) := some (τ0 125 b, s3 (EN τ0 b x2 x3 x4 x5) 14 0); let j6 : Option (Int32 × Mm) := (fX10_in τ0 x2 0 2).bind fun r7 => if r7 = 0 then some (0, s3 τ0 0 2) else (if x2 = 0 then j10 else (fX10_isVariable τ0 x3).bind fun r15 => if r15 = 0 then some (0, s3 τ0 0 2) else j10); let j5 : Option (Int32 × Mm) := if x2 = 1 then (fX10_isBlock τ0 x5).bind fun r21 => if r21 = 0 then some (0, s3 τ0 0 1) else j6 else j6; let j26 : Option (Int32 × Mm) := (fX10_isBlock τ0 x4).bind fun r27 => if r27 = 0 then some (0, s3 τ0 0 1) else j5; if x2 = 0 then j26 else if x2 = 1 then j26 else j5) := by
      intro τ hm
      unfold fX10_setEnd
      simp only [bd]
      rw [up0, m_iBy hw hm.1 hb']
      simp only [obs]
      rw [if_neg (by decide)]
      simp (disch := omega) only [gN, nI_clamp, m_EN, obs]
      rfl
    have hMI : ∀ τ, IVp P τ → MP (s3 τ 0 0) 124 1 P := fun τ hτ => (IV_s0 hτ).2.2.1
    have f1 : fX9_setEnd σ (nI b) x2 x3 x4 x5 = some (2, 0, σ) → (∀ τ, MP (s3 τ 0 0) 124 1 P → fX10_setEnd τ (nI b) x2 x3 x4 x5 = some (0, s3 (s3 τ 0 0) 0 1)) → METH (fun σ => fX9_setEnd σ (nI b) x2 x3 x4 x5) (fun τ => fX10_setEnd τ (nI b) x2 x3 x4 x5) [2, 1] σ := fun a c => me_f0 hP 2 1 (by decide) (by decide) rfl a (fun τ hτ => c τ (hMI τ hτ))
    have f2 : fX9_setEnd σ (nI b) x2 x3 x4 x5 = some (1, 0, σ) → (∀ τ, MP (s3 τ 0 0) 124 1 P → fX10_setEnd τ (nI b) x2 x3 x4 x5 = some (0, s3 (s3 τ 0 0) 0 2)) → METH (fun σ => fX9_setEnd σ (nI b) x2 x3 x4 x5) (fun τ => fX10_setEnd τ (nI b) x2 x3 x4 x5) [2, 1] σ := fun a c => me_f0 hP 1 2 (by decide) (by decide) rfl a (fun τ hτ => c τ (hMI τ hτ))
    rcases ix2 x2 (n := 3) (by omega) with hy | ⟨e, he, rfl⟩
    · have z0 : ¬ x2 = 0 := fun q => by rw [q] at hy; exact absurd hy (by decide)
      have z1 : ¬ x2 = 1 := fun q => by rw [q] at hy; exact absurd hy (by decide)
      refine f2 (eC.trans ?_) (fun τ hm => (eM τ hm).trans ?_)
      · simp only []
        rw [if_neg z0, if_neg z1, if_neg z1]
        by_cases a : x2 < 0
        · rw [if_pos a]
        · rw [if_neg a, if_neg (show ¬ x2 ≤ 2 from le_bad (n := 2) (by omega) hy a)]
      · simp only []
        rw [if_neg z0, if_neg z1, if_neg z1, show fX10_in (s3 τ 0 0) x2 0 2 = _ from m_in (m := 2) (by omega) x2, if_pos hy]
        rfl
    · rcases in3 he with q | q | q
      · subst q
        rcases ix2 x4 (n := P_n P) (by omega) with h4 | ⟨f, h4, rfl⟩
        · refine f1 (eC.trans ?_) (fun τ hm => (eM τ hm).trans ?_)
          · simp only []
            rw [if_pos (by decide), c_rBn hw hP.2.1 h4, bnTe (by decide)]
          · simp only []
            rw [if_pos (by decide), m_iBn hw hm.1 h4]
            rfl
        · refine se_ok (e := 0) (v := 0) (s := 0) hP hb' ⟨by omega, rfl, fun q => absurd rfl q, fun _ => ⟨h4, rfl⟩, fun q => absurd q (by omega)⟩ (eC.trans ?_) (fun τ hm => (eM τ hm).trans ?_)
          · simp only []
            rw [if_pos (by decide), c_rBy hw hP.2.1 h4, bnT0, if_neg (by decide), if_neg (by decide), if_pos (by decide), if_pos (by decide)]
          · simp only []
            rw [if_pos (by decide), m_iBy hw hm.1 h4]
            rfl
      · subst q
        rcases ix2 x4 (n := P_n P) (by omega) with h4 | ⟨f, h4, rfl⟩
        · refine f1 (eC.trans ?_) (fun τ hm => (eM τ hm).trans ?_)
          · simp only []
            rw [if_neg (by decide), if_pos (by decide), c_rBn hw hP.2.1 h4, bnTe (by decide)]
          · simp only []
            rw [if_neg (by decide), if_pos (by decide), m_iBn hw hm.1 h4]
            rfl
        · rcases ix2 x5 (n := P_n P) (by omega) with h5 | ⟨s, h5, rfl⟩
          · refine f1 (eC.trans ?_) (fun τ hm => (eM τ hm).trans ?_)
            · simp only []
              rw [if_neg (by decide), if_pos (by decide), c_rBy hw hP.2.1 h4, bnT0, if_pos (by decide), c_rBn hw hP.2.1 h5, bnTe (by decide)]
            · simp only []
              rw [if_neg (by decide), if_pos (by decide), m_iBy hw hm.1 h4, m_iBn hw hm.1 h5]
              rfl
          · rcases ix2 x3 (n := 12) (by omega) with h3 | ⟨v, h3, rfl⟩
            · refine f2 (eC.trans ?_) (fun τ hm => (eM τ hm).trans ?_)
              · simp only []
                rw [if_neg (by decide), if_pos (by decide), c_rBy hw hP.2.1 h4, bnT0, if_pos (by decide), c_rBy hw hP.2.1 h5, bnT0, if_neg (by decide), if_pos (by decide), if_neg (by decide), c_rVn h3, bnTe (by decide)]
              · simp only []
                rw [if_neg (by decide), if_pos (by decide), m_iBy hw hm.1 h4, m_iBy hw hm.1 h5, m_iVn h3]
                rfl
            · refine se_ok (e := 1) hP hb' ⟨by omega, rfl, fun _ => ⟨h3, rfl⟩, fun _ => ⟨h4, rfl⟩, fun _ => ⟨h5, rfl⟩⟩ (eC.trans ?_) (fun τ hm => (eM τ hm).trans ?_)
              · simp only []
                rw [if_neg (by decide), if_pos (by decide), c_rBy hw hP.2.1 h4, bnT0, if_pos (by decide), c_rBy hw hP.2.1 h5, bnT0, if_neg (by decide), if_pos (by decide), if_neg (by decide), c_rVy h3, bnT0]
              · simp only []
                rw [if_neg (by decide), if_pos (by decide), m_iBy hw hm.1 h4, m_iBy hw hm.1 h5, m_iVy h3]
                rfl
      · subst q
        rcases ix2 x3 (n := 12) (by omega) with h3 | ⟨v, h3, rfl⟩
        · refine f2 (eC.trans ?_) (fun τ hm => (eM τ hm).trans ?_)
          · simp only []
            rw [if_neg (by decide), if_neg (by decide), if_neg (by decide), if_neg (by decide), if_pos (by decide), if_neg (by decide), c_rVn h3, bnTe (by decide)]
          · simp only []
            rw [if_neg (by decide), if_neg (by decide), if_neg (by decide), m_iVn h3]
            rfl
        · refine se_ok (e := 2) (f := 0) (s := 0) hP hb' ⟨by omega, rfl, fun _ => ⟨h3, rfl⟩, fun q => absurd rfl q, fun q => absurd q (by omega)⟩ (eC.trans ?_) (fun τ hm => (eM τ hm).trans ?_)
          · simp only []
            rw [if_neg (by decide), if_neg (by decide), if_neg (by decide), if_neg (by decide), if_pos (by decide), if_neg (by decide), c_rVy h3, bnT0]
          · simp only []
            rw [if_neg (by decide), if_neg (by decide), if_neg (by decide), m_iVy h3]
            rfl
