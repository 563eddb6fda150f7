/-! clear, feed -/
def Pz (n : Nat) : Pg := (n, fun _ => 0, fun _ _ => 0, fun _ _ => 0, fun _ _ => 0, fun _ _ => 0, fun _ => 2, fun _ => 0, fun _ => 0, fun _ => 0, fun _ => 1, fun _ => 0)
theorem Pz_W {n : Nat} (h : 1 ≤ n) (h2 : n ≤ 8) : WP (Pz n) := WP_if.mpr ⟨⟨h, h2⟩, fun b _ => ⟨by show 0 ≤ 8; omega, by show 2 ≤ 2; omega, fun _ => by show 0 < 12; omega, fun q => absurd (show (2 : Nat) = 2 from rfl) q, fun q => absurd (show (2 : Nat) = 1 from q) (by omega), ⟨by show 1 ≤ 1; omega, by show 1 ≤ 9999; omega⟩, fun i hi => absurd (show i < 0 from hi) (by omega)⟩⟩
theorem c_clr {σ : Mm} {n : Nat} : ∃ σ', fX7_begin_p σ (nI n) = some σ' ∧ (∀ j, j = 0 ∨ 44 ≤ j → σ' j = σ j) ∧ CP σ' 1 4 (Pz n) := by
  obtain ⟨s, e, ⟨f, r⟩⟩ : ∃ s, qX7_begin_p_2 (nI n) FU (σ, 0) = some s ∧ ((∀ j, j < 4 ∨ 43 < j → s j = σ j) ∧ ∀ c, c < 8 → s (4 + 5 * c) 4 = 0 ∧ s (4 + 5 * c) 5 = 2 ∧ s (4 + 5 * c) 6 = 0 ∧ s (4 + 5 * c) 7 = -1 ∧ s (4 + 5 * c) 8 = -1 ∧ s (4 + 5 * c) 9 = 1) := by
    refine lp_inv2e (fun k s => (∀ j, j < 4 ∨ 43 < j → s j = σ j) ∧ ∀ c, c < k → s (4 + 5 * c) 4 = 0 ∧ s (4 + 5 * c) 5 = 2 ∧ s (4 + 5 * c) 6 = 0 ∧ s (4 + 5 * c) 7 = -1 ∧ s (4 + 5 * c) 8 = -1 ∧ s (4 + 5 * c) 9 = 1) 8 _ ?_ ?_ ⟨fun _ _ => rfl, fun c hc => by omega⟩ (fu (by omega))
    · rintro k s hk ⟨j1, j2⟩
      obtain ⟨s', e, f, r⟩ := @c_begin s (4 + 5 * k)
      refine Or.inr ⟨s', fun rec => ?_, fun j hj => (f j (by simp; omega)).trans (j1 j hj), fun c hc => ?_⟩
      · show gX7_begin_p_2 (nI n) rec s (nI k) = _
        unfold gX7_begin_p_2
        simp (disch := omega) only [obs, bd, jn, bn2, un2, bn3, un3, bns, nI_1, nI_clamp, gN, gN0, gN1, gN2, gN3, nI_leI, nI_ltI, nI_eq, li_le, li_lt, le_li, lt_li, eq_li, li_eq, li_mul, mul_li, add_li, nI_add, m_has, c_has, hI_0, bI_0, if_neg, e]
      · by_cases q : c = k
        · subst q; exact r
        · rw [f (4 + 5 * c) (by simp; omega)]; exact j2 c (by omega)
    · rintro s hs
      refine ⟨s, fun rec => ?_, hs⟩
      show gX7_begin_p_2 (nI n) rec s (nI 8) = _
      unfold gX7_begin_p_2
      simp (disch := omega) only [obs, bd, jn, bn2, un2, bn3, un3, bns, nI_1, nI_clamp, gN, gN0, gN1, gN2, gN3, nI_leI, nI_ltI, nI_eq, li_le, li_lt, le_li, lt_li, eq_li, li_eq, li_mul, mul_li, add_li, nI_add, m_has, c_has, hI_0, bI_0, if_pos]
  refine ⟨upm (upm s 3 (fun x => if x < 12 then 0 else s 3 x)) 1 (upd (s 1) 2 (nI n)), ?_, fun j hj => ?_, CP_if.mpr ⟨?_, fun v hv => ?_, fun b hb' => ?_⟩⟩
  · unfold fX7_begin_p
    rw [e]
    simp only [obs]
    rw [c_fill (by omega)]
    simp only [obs, bd]
    rw [upm_n (by omega)]
  · rw [upm_n (by omega), upm_n (by omega), f j (by omega)]
  · rw [upm_s, upd_a, if_pos rfl]; rfl
  · rw [upm_n (by omega), upm_s]; exact if_pos hv
  · obtain ⟨r4, r5, r6, r7, r8, r9⟩ := r b hb'
    refine ⟨?_, ?_, ?_, ?_, ?_, ?_, fun i hi => absurd (show i < 0 from hi) (by omega)⟩
    · rw [upm_n (by omega), upm_n (by omega)]; exact r4
    · rw [upm_n (by omega), upm_n (by omega)]; exact r5
    · rw [upm_n (by omega), upm_n (by omega)]; exact r6
    · rw [upm_n (by omega), upm_n (by omega)]; exact r7
    · rw [upm_n (by omega), upm_n (by omega)]; exact r8
    · rw [upm_n (by omega), upm_n (by omega)]; exact r9
theorem m_clr {τ : Mm} {n : Nat} (hn : τ 123 1 = nI n) : ∃ τ', fX10_empties τ = some τ' ∧ Fq [124, 125, 126, 129, 134] τ τ' ∧ MP τ' 124 1 (Pz n) := by
  obtain ⟨s, e, ⟨f, r⟩⟩ : ∃ s, qX10_empties_2 FU (τ, 0) = some s ∧ (Fq [124, 125, 126, 129] τ s ∧ ∀ c, c < 8 → s 124 c = 0 ∧ s 125 c = 2 ∧ s 126 c = 0 ∧ s 129 c = 1) := by
    refine lp_inv2e (fun k s => Fq [124, 125, 126, 129] τ s ∧ ∀ c, c < k → s 124 c = 0 ∧ s 125 c = 2 ∧ s 126 c = 0 ∧ s 129 c = 1) 8 _ ?_ ?_ ⟨Fq_rf, fun c hc => by omega⟩ (fu (by omega))
    · rintro k s hk ⟨j1, j2⟩
      refine Or.inr ⟨upm (upm (upm (upm s 124 (upd (s 124) k 0)) 125 (upd (s 125) k 2)) 126 (upd (s 126) k 0)) 129 (upd (s 129) k 1), fun rec => ?_, (((j1.up (by simp)).up (by simp)).up (by simp)).up (by simp), fun c hc => ?_⟩
      · show gX10_empties_2 rec s (nI k) = _
        unfold gX10_empties_2
        simp (disch := omega) only [obs, bd, jn, bn2, un2, bn3, un3, bns, nI_1, nI_clamp, gN, gN0, gN1, gN2, gN3, nI_leI, nI_ltI, nI_eq, li_le, li_lt, le_li, lt_li, eq_li, li_eq, li_mul, mul_li, add_li, nI_add, m_has, c_has, hI_0, bI_0, if_neg, upm_n, ne_eq]
      · rw [upm_n (by omega), upm_n (by omega), upm_n (by omega), upm_s, upm_n (by omega), upm_n (by omega), upm_s, upm_n (by omega), upm_s, upm_s, upd_a, upd_a, upd_a, upd_a]
        by_cases q : c = k
        · simp only [if_pos q]; exact ⟨trivial, trivial, trivial, trivial⟩
        · simp only [if_neg q]; exact j2 c (by omega)
    · rintro s hs
      refine ⟨s, fun rec => ?_, hs⟩
      show gX10_empties_2 rec s (nI 8) = _
      unfold gX10_empties_2
      simp (disch := omega) only [obs, bd, jn, bn2, un2, bn3, un3, bns, nI_1, nI_clamp, gN, gN0, gN1, gN2, gN3, nI_leI, nI_ltI, nI_eq, li_le, li_lt, le_li, lt_li, eq_li, li_eq, li_mul, mul_li, add_li, nI_add, m_has, c_has, hI_0, bI_0, if_pos]
  obtain ⟨s2, e2, f2, r2⟩ := z_loop (k := 134) (N := 12) (g := fun _ => 0) (s0 := s) (step := fun rec s => gX10_empties_44 rec s.1 s.2) (fun i hi s rec hq => by
    show gX10_empties_44 rec s (nI i) = _
    unfold gX10_empties_44
    simp (disch := omega) only [obs, bd, jn, bn2, un2, bn3, un3, bns, nI_1, nI_clamp, gN, gN0, gN1, gN2, gN3, nI_leI, nI_ltI, nI_eq, li_le, li_lt, le_li, lt_li, eq_li, li_eq, li_mul, mul_li, add_li, nI_add, m_has, c_has, hI_0, bI_0, if_neg]) (fun s rec => by
    show gX10_empties_44 rec s (nI 12) = _
    unfold gX10_empties_44
    simp (disch := omega) only [obs, bd, jn, bn2, un2, bn3, un3, bns, nI_1, nI_clamp, gN, gN0, gN1, gN2, gN3, nI_leI, nI_ltI, nI_eq, li_le, li_lt, le_li, lt_li, eq_li, li_eq, li_mul, mul_li, add_li, nI_add, m_has, c_has, hI_0, bI_0, if_pos]) (n := FU) (fu (by omega))
  refine ⟨s2, ?_, (f.wk (by simp)).tr f2 (by simp), MP_if.mpr ⟨?_, fun v hv => r2 v hv, fun b hb' => ?_⟩⟩
  · have e2' : qX10_empties_44 FU (s, 0) = some s2 := e2
    unfold fX10_empties
    rw [e]
    simp only [obs]
    rw [e2']
    rfl
  · rw [f2 123 (by simp), f 123 (by simp)]; exact hn
  · obtain ⟨r4, r5, r6, r9⟩ := r b hb'
    refine ⟨?_, ?_, fun _ => ?_, fun q => absurd (show (2 : Nat) = 2 from rfl) q, fun q => absurd (show (2 : Nat) = 1 from q) (by omega), ?_, fun i hi => absurd (show i < 0 from hi) (by omega)⟩
    · rw [f2 _ (by simp)]; exact r4
    · rw [f2 _ (by simp)]; exact r5
    · rw [f2 _ (by simp)]; exact r6
    · rw [f2 _ (by simp)]; exact r9
theorem me_clear {σ : Mm} (h : IV σ) (x : Int32) : METH (fun σ => fX9_clear σ x) (fun τ => fX10_clear τ x) [1] σ := by
  obtain ⟨P, hP⟩ := h
  have hw := hP.1
  rcases ix1 x (n := 8) (by omega) with hx | ⟨n, h1, hn, rfl⟩
  · refine me_f0 hP 1 1 (by decide) (by decide) rfl ?_ (fun τ hτ => ?_)
    · show fX9_clear σ x = _
      unfold fX9_clear
      by_cases a : x < 1
      · rw [if_pos a]
      · rw [if_neg a, if_neg (show ¬ x ≤ 8 from le_bad1 (n := 8) (by omega) hx a)]
    · show fX10_clear τ x = _
      unfold fX10_clear
      simp only [bd]
      rw [up0, show fX10_in (s3 τ 0 0) x 1 8 = _ from m_in1 (m := 8) (by omega) x, if_pos hx]
      rfl
  · obtain ⟨σ', e, f, c⟩ := @c_clr σ n
    refine me_mu hP σ' (nI (P_n P)) ?_ (Pz n) (Pz_W h1 hn) c f (fun τ hτ => ?_)
    · show fX9_clear σ (nI n) = _
      unfold fX9_clear
      rw [if_neg (ge1 h1 (by omega)), if_pos (show nI n ≤ 8 from (nI_leI (b := 8) (by omega) (by omega)).mpr hn)]
      simp only [bd]
      rw [e]
      simp only [obs]
      rw [c_pc, hP.2.1.1]
      rfl
    · have hm := mu_M hP hτ
      obtain ⟨τ', e', f', m'⟩ := @m_clr (s3 (s3 τ 0 0) 1 (nI n)) n s3_s
      refine ⟨τ', ?_, m', fun j hj => by rw [f' j (by simp; omega), s3_n (by omega), s3_n (by omega)], by rw [f' 123 (by simp), s3_i (by omega)]; exact s3_s, fun i h0 h1 => by rw [f' 123 (by simp), s3_i h1, s3_i h0]⟩
      show fX10_clear τ (nI n) = _
      unfold fX10_clear
      simp only [bd]
      rw [up0, show fX10_in (s3 τ 0 0) (nI n) 1 8 = _ from m_in1 (m := 8) (by omega) (nI n), if_neg (nx1 h1 hn (by omega))]
      simp only [obs]
      rw [if_neg (by decide), show upm (s3 τ 0 0) 123 (upd (s3 τ 0 0 123) 1 (nI n)) = s3 (s3 τ 0 0) 1 (nI n) from rfl, e', hm.1]
      rfl
theorem IV_rd {P : Pg} {σ σ' : Mm} (h : IVp P σ) (hq : ∀ j, j ≠ 113 → j ≠ 114 → j ≠ 123 → j ≠ 154 → j ≠ 170 → σ' j = σ j) (h3 : ∀ i, i ≠ 0 → i ≠ 43 → σ' 123 i = σ 123 i) (hr : RDR σ') : IVp P σ' := by
  obtain ⟨w, c, m, a, p, s, t, -⟩ := h
  have e : ∀ j, j < 113 ∨ (114 < j ∧ j < 123) ∨ (123 < j ∧ j < 154) ∨ (154 < j ∧ j < 170) → σ' j = σ j := fun j hj => hq j (by omega) (by omega) (by omega) (by omega) (by omega)
  refine ⟨w, CP_cg (fun k _ _ => e k (by omega)) c, MP_cg (h3 1 (by omega) (by omega)) (fun k _ _ => e k (by omega)) m, ?_, ?_, SNP_cg (fun k _ _ => e k (by omega)) (fun k _ _ => e k (by omega)) (by rw [e 0 (by omega)]) (h3 2 (by omega) (by omega)) s, CNT_cg (e 121 (by omega)) (e 122 (by omega)) (e 149 (by omega)) (e 151 (by omega)) t, hr⟩
  · rw [e 0 (by omega)]
    exact a.elim Or.inl (fun q => Or.inr ⟨q.1, AN_cg (fun k _ _ => e k (by omega)) q.2⟩)
  · unfold PLN
    rw [e 0 (by omega), h3 14 (by omega) (by omega)]
    rcases p with p | ⟨p1, p2, p3, x, k, p4, p5, p6⟩
    · exact Or.inl p
    · exact Or.inr ⟨p1, p2, p3, x, k, p4, PLc_cg (fun j _ => e j (by omega)) p5, PLm_cg (fun j _ _ => e j (by omega)) (fun i _ _ => h3 i (by omega) (by omega)) p6⟩
theorem me_feed {σ : Mm} (h : IV σ) {ch : Nat} (hc : ch < 65536) : METH (fun σ => fX9_feed σ (nI ch)) (fun τ => fX10_feed τ (nI ch)) [3] σ := by
  obtain ⟨P, hP⟩ := h
  obtain ⟨n, c, hn, r1, r2, r3⟩ := hP.2.2.2.2.2.2.2
  by_cases q : n = 80
  · subst q
    refine me_fE hP 3 1 (by decide) (by decide) rfl ?_ (fun τ hτ hI => ⟨s3 τ 0 0, ?_, IV_s0 hI, s3_n (by omega)⟩)
    · show fX9_feed σ (nI ch) = _
      unfold fX9_feed
      rw [r1, if_neg (by decide)]
    · show fX10_feed τ (nI ch) = _
      unfold fX10_feed
      simp only [bd]
      rw [up0, s3_i (by omega), hτ 123 (by omega), r2, if_pos (by decide)]
      rfl
  · refine me_ok (σ1 := upm (upm σ 114 (upd (σ 114) n (nI ch))) 113 (upd (σ 113) 2 (nI (n + 1)))) (a := nI (n + 1)) ?_ (fun τ hτ => ?_)
    · show fX9_feed σ (nI ch) = _
      unfold fX9_feed
      rw [r1, if_pos (show nI n < 80 from (lt_li (c := 80) (by decide) (by omega)).mpr (show n < 80 by omega)), nrcN hc]
      simp (disch := omega) only [bd, gN, nI_clamp, upm_n, ne_eq, r1, add_li]
      rw [upm_s, upd_a, if_pos rfl]
    · have t3 : τ 123 = σ 123 := by rw [hτ 123 (by omega), upm_n (by omega), upm_n (by omega)]
      have t4 : τ 154 = σ 154 := by rw [hτ 154 (by omega), upm_n (by omega), upm_n (by omega)]
      refine ⟨s3 (upm (s3 τ 0 0) 154 (upd (σ 154) n (nI ch))) 43 (nI (n + 1)), ?_, by rw [s3_n (by omega), upm_n (by omega), s3_n (by omega)], by rw [s3_i (by omega), upm_n (by omega)]; exact s3_s, P, IV_rd hP (fun j a1 a2 a3 a4 a5 => by rw [s3_n a3, upm_n a4, s3_n a3, hτ j a5, upm_n a1, upm_n a2]) (fun i h0 h43 => by rw [s3_i h43, upm_n (by omega), s3_i h0, t3]) ⟨n + 1, ud c n ch, by omega, ?_, s3_s, fun i hi => ?_⟩⟩
      · show fX10_feed τ (nI ch) = _
        unfold fX10_feed
        simp only [bd]
        rw [up0, s3_i (by omega), t3, r2, if_neg (fun r => q ((eq_li (c := 80) (by decide) (by omega)).mp r))]
        simp (disch := omega) only [gN, nI_clamp, upm_n, ne_eq, s3_n, s3_i, t3, t4, r2, add_li]
        rw [upm_s, upd_a, if_pos rfl]
        have e1 : upm (s3 τ 0 0) 154 (upd (σ 154) n (nI ch)) 123 = s3 τ 0 0 123 := upm_n (by omega)
        unfold s3 at e1 ⊢
        rw [e1]
      · rw [s3_n (by omega), upm_n (by omega), s3_n (by omega), hτ 113 (by omega), upm_s, upd_a, if_pos rfl]
      · rw [s3_n (by omega), upm_n (by omega), s3_n (by omega), hτ 114 (by omega), upm_n (by omega), upm_s, s3_n (by omega), upm_s, upd_a, upd_a]
        by_cases w : i = n
        · rw [if_pos w, if_pos w, w, ud_s]; exact ⟨hc, rfl, rfl⟩
        · rw [if_neg w, if_neg w, ud_n w]; exact r3 i (by omega)
