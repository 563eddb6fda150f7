/-! keeping and taking back -/
theorem bd_q {α β : Type} {a : β} {f : β → Option α} : bd a f = f a := Eq.trans rfl rfl
theorem IV_sn {P : Pg} {σ σ' : Mm} (h : IVp P σ) (hq : ∀ j, j ≠ 0 → (j < 44 ∨ 86 < j) → j ≠ 123 → (j < 159 ∨ 169 < j) → j ≠ 170 → σ' j = σ j) (h0 : ∀ i, i ≠ 11 → σ' 0 i = σ 0 i) (h3 : ∀ i, i ≠ 0 → i ≠ 2 → σ' 123 i = σ 123 i) (hs : SNP σ') : IVp P σ' := by
  obtain ⟨w, c, m, a, p, -, t, r⟩ := h
  have e : ∀ j, (0 < j ∧ j < 44) ∨ (86 < j ∧ j < 123) ∨ (123 < j ∧ j < 159) → σ' j = σ j := fun j hj => hq j (by omega) (by omega) (by omega) (by omega) (by omega)
  refine ⟨w, CP_cg (fun k _ _ => e k (by omega)) c, MP_cg (h3 1 (by omega) (by omega)) (fun k _ _ => e k (by omega)) m, ?_, ?_, hs, CNT_cg (e 121 (by omega)) (e 122 (by omega)) (e 149 (by omega)) (e 151 (by omega)) t, RDR_cg (by rw [e 113 (by omega)]) (h3 43 (by omega) (by omega)) (e 114 (by omega)) (e 154 (by omega)) r⟩
  · rw [h0 13 (by omega)]
    exact a.elim Or.inl (fun q => Or.inr ⟨q.1, AN_cg (fun k _ _ => e k (by omega)) q.2⟩)
  · unfold PLN
    rw [h0 12 (by omega), h0 13 (by omega), h3 14 (by omega) (by omega)]
    rcases p with p | ⟨p1, p2, p3, x, k, p4, p5, p6⟩
    · exact Or.inl p
    · exact Or.inr ⟨p1, p2, p3, x, k, p4, PLc_cg (fun j _ => e j (by omega)) p5, PLm_cg (fun j _ _ => e j (by omega)) (fun i _ _ => h3 i (by omega) (by omega)) p6⟩
theorem me_saveSnapshot {σ : Mm} (h : IV σ) : METP fX9_saveSnapshot fX10_saveSnapshot σ := by
  obtain ⟨P, hP⟩ := h
  have hw := hP.1
  obtain ⟨s, e, f, c⟩ := c_save hw hP.2.1
  let σ1 : Mm := upm s 0 (upd (s 0) 11 1)
  have k1 : ∀ j, j ≠ 0 → (j < 44 ∨ 86 < j) → σ1 j = σ j := fun j a b => (upm_n a).trans (f j b)
  have k0 : σ1 0 = upd (s 0) 11 1 := upm_s
  obtain ⟨m1, m2, m3⟩ := MP_if.mp hP.2.2.1
  obtain ⟨t1, e1, f1, r1⟩ := m_cp (s3 σ1 2 (σ1 123 1)) 124 8 159 (by omega) (by omega)
  obtain ⟨t2, e2, f2, r2⟩ := m_cp t1 125 8 160 (by omega) (by omega)
  obtain ⟨t3, e3, f3, r3⟩ := m_cp t2 126 8 161 (by omega) (by omega)
  obtain ⟨t4, e4, f4, r4⟩ := m_cp t3 127 8 162 (by omega) (by omega)
  obtain ⟨t5, e5, f5, r5⟩ := m_cp t4 128 8 163 (by omega) (by omega)
  obtain ⟨t6, e6, f6, r6⟩ := m_cp t5 129 8 164 (by omega) (by omega)
  obtain ⟨t7, e7, f7, r7⟩ := m_cp t6 130 64 165 (by omega) (by omega)
  obtain ⟨t8, e8, f8, r8⟩ := m_cp t7 131 64 166 (by omega) (by omega)
  obtain ⟨t9, e9, f9, r9⟩ := m_cp t8 132 64 167 (by omega) (by omega)
  obtain ⟨t10, e10, f10, r10⟩ := m_cp t9 133 64 168 (by omega) (by omega)
  obtain ⟨t11, e11, f11, r11⟩ := m_cp t10 134 12 169 (by omega) (by omega)
  have z1 : ∀ j, j < 159 → t1 j = s3 σ1 2 (σ1 123 1) j := fun j hj => f1 j (by simp; omega)
  have z2 : ∀ j, j < 159 → t2 j = s3 σ1 2 (σ1 123 1) j := fun j hj => (f2 j (by simp; omega)).trans (z1 j hj)
  have z3 : ∀ j, j < 159 → t3 j = s3 σ1 2 (σ1 123 1) j := fun j hj => (f3 j (by simp; omega)).trans (z2 j hj)
  have z4 : ∀ j, j < 159 → t4 j = s3 σ1 2 (σ1 123 1) j := fun j hj => (f4 j (by simp; omega)).trans (z3 j hj)
  have z5 : ∀ j, j < 159 → t5 j = s3 σ1 2 (σ1 123 1) j := fun j hj => (f5 j (by simp; omega)).trans (z4 j hj)
  have z6 : ∀ j, j < 159 → t6 j = s3 σ1 2 (σ1 123 1) j := fun j hj => (f6 j (by simp; omega)).trans (z5 j hj)
  have z7 : ∀ j, j < 159 → t7 j = s3 σ1 2 (σ1 123 1) j := fun j hj => (f7 j (by simp; omega)).trans (z6 j hj)
  have z8 : ∀ j, j < 159 → t8 j = s3 σ1 2 (σ1 123 1) j := fun j hj => (f8 j (by simp; omega)).trans (z7 j hj)
  have z9 : ∀ j, j < 159 → t9 j = s3 σ1 2 (σ1 123 1) j := fun j hj => (f9 j (by simp; omega)).trans (z8 j hj)
  have z10 : ∀ j, j < 159 → t10 j = s3 σ1 2 (σ1 123 1) j := fun j hj => (f10 j (by simp; omega)).trans (z9 j hj)
  have z11 : ∀ j, j < 159 → t11 j = s3 σ1 2 (σ1 123 1) j := fun j hj => (f11 j (by simp; omega)).trans (z10 j hj)
  have p : ∀ j, j < 159 → j ≠ 123 → j ≠ 0 → (j < 44 ∨ 86 < j) → s3 σ1 2 (σ1 123 1) j = σ j := fun j _ b c d => (s3_n b).trans (k1 j c d)
  have n1 : σ1 123 1 = nI (P_n P) := by rw [k1 123 (by omega) (by omega)]; exact m1
  have w1 : ∀ i, i < 8 → t11 159 i = σ 124 i := fun i hi => by rw [f11 159 (by simp), f10 159 (by simp), f9 159 (by simp), f8 159 (by simp), f7 159 (by simp), f6 159 (by simp), f5 159 (by simp), f4 159 (by simp), f3 159 (by simp), f2 159 (by simp), r1 i hi, p 124 (by omega) (by omega) (by omega) (by omega)]
  have w2 : ∀ i, i < 8 → t11 160 i = σ 125 i := fun i hi => by rw [f11 160 (by simp), f10 160 (by simp), f9 160 (by simp), f8 160 (by simp), f7 160 (by simp), f6 160 (by simp), f5 160 (by simp), f4 160 (by simp), f3 160 (by simp), r2 i hi, z1 125 (by omega), p 125 (by omega) (by omega) (by omega) (by omega)]
  have w3 : ∀ i, i < 8 → t11 161 i = σ 126 i := fun i hi => by rw [f11 161 (by simp), f10 161 (by simp), f9 161 (by simp), f8 161 (by simp), f7 161 (by simp), f6 161 (by simp), f5 161 (by simp), f4 161 (by simp), r3 i hi, z2 126 (by omega), p 126 (by omega) (by omega) (by omega) (by omega)]
  have w4 : ∀ i, i < 8 → t11 162 i = σ 127 i := fun i hi => by rw [f11 162 (by simp), f10 162 (by simp), f9 162 (by simp), f8 162 (by simp), f7 162 (by simp), f6 162 (by simp), f5 162 (by simp), r4 i hi, z3 127 (by omega), p 127 (by omega) (by omega) (by omega) (by omega)]
  have w5 : ∀ i, i < 8 → t11 163 i = σ 128 i := fun i hi => by rw [f11 163 (by simp), f10 163 (by simp), f9 163 (by simp), f8 163 (by simp), f7 163 (by simp), f6 163 (by simp), r5 i hi, z4 128 (by omega), p 128 (by omega) (by omega) (by omega) (by omega)]
  have w6 : ∀ i, i < 8 → t11 164 i = σ 129 i := fun i hi => by rw [f11 164 (by simp), f10 164 (by simp), f9 164 (by simp), f8 164 (by simp), f7 164 (by simp), r6 i hi, z5 129 (by omega), p 129 (by omega) (by omega) (by omega) (by omega)]
  have w7 : ∀ i, i < 64 → t11 165 i = σ 130 i := fun i hi => by rw [f11 165 (by simp), f10 165 (by simp), f9 165 (by simp), f8 165 (by simp), r7 i hi, z6 130 (by omega), p 130 (by omega) (by omega) (by omega) (by omega)]
  have w8 : ∀ i, i < 64 → t11 166 i = σ 131 i := fun i hi => by rw [f11 166 (by simp), f10 166 (by simp), f9 166 (by simp), r8 i hi, z7 131 (by omega), p 131 (by omega) (by omega) (by omega) (by omega)]
  have w9 : ∀ i, i < 64 → t11 167 i = σ 132 i := fun i hi => by rw [f11 167 (by simp), f10 167 (by simp), r9 i hi, z8 132 (by omega), p 132 (by omega) (by omega) (by omega) (by omega)]
  have w10 : ∀ i, i < 64 → t11 168 i = σ 133 i := fun i hi => by rw [f11 168 (by simp), r10 i hi, z9 133 (by omega), p 133 (by omega) (by omega) (by omega) (by omega)]
  have w11 : ∀ i, i < 12 → t11 169 i = σ 134 i := fun i hi => by rw [r11 i hi, z10 134 (by omega), p 134 (by omega) (by omega) (by omega) (by omega)]
  have q3 : ∀ i, i ≠ 2 → t11 123 i = σ 123 i := fun i hi => by rw [z11 123 (by omega), s3_i hi, k1 123 (by omega) (by omega)]
  refine ⟨nI (P_n P), σ1, t11, ?_, ?_, P, IV_sn hP (fun j a1 a2 a3 a4 a5 => ?_) (fun i hi => ?_) (fun i _ hi => q3 i hi) (Or.inr ⟨?_, P, hw, ?_, MP_if.mpr ⟨?_, fun v hv => (w11 v hv).trans (m2 v hv), fun b hb' => ?_⟩⟩)⟩
  · unfold fX9_saveSnapshot
    rw [e]
    simp only [obs, bd]
    rw [upm_n (by omega), f 1 (by omega), hP.2.1.1]
  · unfold fX10_saveSnapshot
    rw [bd_q, show upm σ1 123 (upd (σ1 123) 2 (σ1 123 1)) = s3 σ1 2 (σ1 123 1) from rfl, e1]
    simp only [obs]
    rw [e2]
    simp only [obs]
    rw [e3]
    simp only [obs]
    rw [e4]
    simp only [obs]
    rw [e5]
    simp only [obs]
    rw [e6]
    simp only [obs]
    rw [e7]
    simp only [obs]
    rw [e8]
    simp only [obs]
    rw [e9]
    simp only [obs]
    rw [e10]
    simp only [obs]
    rw [e11]
    simp only [obs]
    rw [q3 1 (by omega), m1]
  · rcases Nat.lt_or_ge j 159 with q | q
    · rw [z11 j q, p j q a3 a1 a2]
    · rw [f11 j (by simp; omega), f10 j (by simp; omega), f9 j (by simp; omega), f8 j (by simp; omega), f7 j (by simp; omega), f6 j (by simp; omega), f5 j (by simp; omega), f4 j (by simp; omega), f3 j (by simp; omega), f2 j (by simp; omega), f1 j (by simp; omega), s3_n a3, k1 j a1 a2]
  · rw [z11 0 (by omega), s3_n (by omega), k0, upd_a, if_neg hi, f 0 (by omega)]
  · rw [z11 0 (by omega), s3_n (by omega), k0, upd_a, if_pos rfl]
  · obtain ⟨d1, d2, d3⟩ := CP_if.mp c
    have z : ∀ j, 44 ≤ j → j ≤ 86 → t11 j = s j := fun j a b => by rw [z11 j (by omega), s3_n (by omega)]; exact upm_n (by omega)
    exact CP_if.mpr ⟨by rw [z 44 (by omega) (by omega)]; exact d1, fun v hv => by rw [z _ (by omega) (by omega)]; exact d2 v hv, fun b hb' => BC_cg (fun j _ _ => z j (by omega) (by omega)) (d3 b hb')⟩
  · rw [z11 123 (by omega), s3_s]; exact n1
  · obtain ⟨v0, v1, v2, v3, v4, v5, v6⟩ := m3 b hb'
    have h8 := hw.2.1 b hb'
    refine ⟨(w1 b hb').trans v0, (w2 b hb').trans v1, fun q => (w3 b hb').trans (v2 q), fun q => (w4 b hb').trans (v3 q), fun q => (w5 b hb').trans (v4 q), (w6 b hb').trans v5, fun i hi => ⟨(w7 _ (by omega)).trans (v6 i hi).1, (w8 _ (by omega)).trans (v6 i hi).2.1, (w9 _ (by omega)).trans (v6 i hi).2.2.1, (w10 _ (by omega)).trans (v6 i hi).2.2.2⟩⟩
theorem me_restoreSnapshot {σ : Mm} (h : IV σ) : METH (fun σ => fX9_restoreSnapshot σ) (fun τ => fX10_restoreSnapshot τ) [3] σ := by
  obtain ⟨P, hP⟩ := h
  rcases hP.2.2.2.2.2.1 with ⟨s1, s2⟩ | ⟨s1, Q, hQ, cQ, mQ⟩
  · refine me_fE hP 3 1 (by decide) (by decide) rfl ?_ (fun τ hτ hI => ⟨s3 τ 0 0, ?_, IV_s0 hI, s3_n (by omega)⟩)
    · show fX9_restoreSnapshot σ = _
      unfold fX9_restoreSnapshot
      rw [s1, if_pos rfl]
    · show fX10_restoreSnapshot τ = _
      unfold fX10_restoreSnapshot
      rw [bd_q, up0, s3_i (by omega), hτ 123 (by omega), s2, if_pos rfl]
      rfl
  · obtain ⟨s, e, f, c⟩ := c_rest hQ cQ
    obtain ⟨m1, m2, m3⟩ := MP_if.mp mQ
    have hn := hQ.1
    refine me_mu hP s (nI (P_n Q)) ?_ Q hQ c f (fun τ hτ => ?_)
    · show fX9_restoreSnapshot σ = _
      unfold fX9_restoreSnapshot
      rw [s1, if_neg (by decide), e]
      simp only [obs]
      rw [c_pc]
      simp only [obs]
      rw [pc0_n (by omega), c.1]
    · have n2 : s3 τ 0 0 123 2 = nI (P_n Q) := by rw [s3_i (by omega), hτ 123 (by omega) (by omega)]; exact m1
      obtain ⟨t1, e1, f1, r1⟩ := m_cp (s3 (s3 τ 0 0) 1 (nI (P_n Q))) 159 8 124 (by omega) (by omega)
      obtain ⟨t2, e2, f2, r2⟩ := m_cp t1 160 8 125 (by omega) (by omega)
      obtain ⟨t3, e3, f3, r3⟩ := m_cp t2 161 8 126 (by omega) (by omega)
      obtain ⟨t4, e4, f4, r4⟩ := m_cp t3 162 8 127 (by omega) (by omega)
      obtain ⟨t5, e5, f5, r5⟩ := m_cp t4 163 8 128 (by omega) (by omega)
      obtain ⟨t6, e6, f6, r6⟩ := m_cp t5 164 8 129 (by omega) (by omega)
      obtain ⟨t7, e7, f7, r7⟩ := m_cp t6 165 64 130 (by omega) (by omega)
      obtain ⟨t8, e8, f8, r8⟩ := m_cp t7 166 64 131 (by omega) (by omega)
      obtain ⟨t9, e9, f9, r9⟩ := m_cp t8 167 64 132 (by omega) (by omega)
      obtain ⟨t10, e10, f10, r10⟩ := m_cp t9 168 64 133 (by omega) (by omega)
      obtain ⟨t11, e11, f11, r11⟩ := m_cp t10 169 12 134 (by omega) (by omega)
      have z1 : ∀ j, j < 124 ∨ 134 < j → t1 j = s3 (s3 τ 0 0) 1 (nI (P_n Q)) j := fun j hj => f1 j (by simp; omega)
      have z2 : ∀ j, j < 124 ∨ 134 < j → t2 j = s3 (s3 τ 0 0) 1 (nI (P_n Q)) j := fun j hj => (f2 j (by simp; omega)).trans (z1 j hj)
      have z3 : ∀ j, j < 124 ∨ 134 < j → t3 j = s3 (s3 τ 0 0) 1 (nI (P_n Q)) j := fun j hj => (f3 j (by simp; omega)).trans (z2 j hj)
      have z4 : ∀ j, j < 124 ∨ 134 < j → t4 j = s3 (s3 τ 0 0) 1 (nI (P_n Q)) j := fun j hj => (f4 j (by simp; omega)).trans (z3 j hj)
      have z5 : ∀ j, j < 124 ∨ 134 < j → t5 j = s3 (s3 τ 0 0) 1 (nI (P_n Q)) j := fun j hj => (f5 j (by simp; omega)).trans (z4 j hj)
      have z6 : ∀ j, j < 124 ∨ 134 < j → t6 j = s3 (s3 τ 0 0) 1 (nI (P_n Q)) j := fun j hj => (f6 j (by simp; omega)).trans (z5 j hj)
      have z7 : ∀ j, j < 124 ∨ 134 < j → t7 j = s3 (s3 τ 0 0) 1 (nI (P_n Q)) j := fun j hj => (f7 j (by simp; omega)).trans (z6 j hj)
      have z8 : ∀ j, j < 124 ∨ 134 < j → t8 j = s3 (s3 τ 0 0) 1 (nI (P_n Q)) j := fun j hj => (f8 j (by simp; omega)).trans (z7 j hj)
      have z9 : ∀ j, j < 124 ∨ 134 < j → t9 j = s3 (s3 τ 0 0) 1 (nI (P_n Q)) j := fun j hj => (f9 j (by simp; omega)).trans (z8 j hj)
      have z10 : ∀ j, j < 124 ∨ 134 < j → t10 j = s3 (s3 τ 0 0) 1 (nI (P_n Q)) j := fun j hj => (f10 j (by simp; omega)).trans (z9 j hj)
      have z11 : ∀ j, j < 124 ∨ 134 < j → t11 j = s3 (s3 τ 0 0) 1 (nI (P_n Q)) j := fun j hj => (f11 j (by simp; omega)).trans (z10 j hj)
      have p : ∀ j, 134 < j → j ≠ 170 → s3 (s3 τ 0 0) 1 (nI (P_n Q)) j = σ j := fun j a b => by rw [s3_n (by omega), s3_n (by omega), hτ j (by omega) b]
      have w1 : ∀ i, i < 8 → t11 124 i = σ 159 i := fun i hi => by rw [f11 124 (by simp), f10 124 (by simp), f9 124 (by simp), f8 124 (by simp), f7 124 (by simp), f6 124 (by simp), f5 124 (by simp), f4 124 (by simp), f3 124 (by simp), f2 124 (by simp), r1 i hi, p 159 (by omega) (by omega)]
      have w2 : ∀ i, i < 8 → t11 125 i = σ 160 i := fun i hi => by rw [f11 125 (by simp), f10 125 (by simp), f9 125 (by simp), f8 125 (by simp), f7 125 (by simp), f6 125 (by simp), f5 125 (by simp), f4 125 (by simp), f3 125 (by simp), r2 i hi, z1 160 (by omega), p 160 (by omega) (by omega)]
      have w3 : ∀ i, i < 8 → t11 126 i = σ 161 i := fun i hi => by rw [f11 126 (by simp), f10 126 (by simp), f9 126 (by simp), f8 126 (by simp), f7 126 (by simp), f6 126 (by simp), f5 126 (by simp), f4 126 (by simp), r3 i hi, z2 161 (by omega), p 161 (by omega) (by omega)]
      have w4 : ∀ i, i < 8 → t11 127 i = σ 162 i := fun i hi => by rw [f11 127 (by simp), f10 127 (by simp), f9 127 (by simp), f8 127 (by simp), f7 127 (by simp), f6 127 (by simp), f5 127 (by simp), r4 i hi, z3 162 (by omega), p 162 (by omega) (by omega)]
      have w5 : ∀ i, i < 8 → t11 128 i = σ 163 i := fun i hi => by rw [f11 128 (by simp), f10 128 (by simp), f9 128 (by simp), f8 128 (by simp), f7 128 (by simp), f6 128 (by simp), r5 i hi, z4 163 (by omega), p 163 (by omega) (by omega)]
      have w6 : ∀ i, i < 8 → t11 129 i = σ 164 i := fun i hi => by rw [f11 129 (by simp), f10 129 (by simp), f9 129 (by simp), f8 129 (by simp), f7 129 (by simp), r6 i hi, z5 164 (by omega), p 164 (by omega) (by omega)]
      have w7 : ∀ i, i < 64 → t11 130 i = σ 165 i := fun i hi => by rw [f11 130 (by simp), f10 130 (by simp), f9 130 (by simp), f8 130 (by simp), r7 i hi, z6 165 (by omega), p 165 (by omega) (by omega)]
      have w8 : ∀ i, i < 64 → t11 131 i = σ 166 i := fun i hi => by rw [f11 131 (by simp), f10 131 (by simp), f9 131 (by simp), r8 i hi, z7 166 (by omega), p 166 (by omega) (by omega)]
      have w9 : ∀ i, i < 64 → t11 132 i = σ 167 i := fun i hi => by rw [f11 132 (by simp), f10 132 (by simp), r9 i hi, z8 167 (by omega), p 167 (by omega) (by omega)]
      have w10 : ∀ i, i < 64 → t11 133 i = σ 168 i := fun i hi => by rw [f11 133 (by simp), r10 i hi, z9 168 (by omega), p 168 (by omega) (by omega)]
      have w11 : ∀ i, i < 12 → t11 134 i = σ 169 i := fun i hi => by rw [r11 i hi, z10 169 (by omega), p 169 (by omega) (by omega)]
      have q1 : t11 123 1 = nI (P_n Q) := by rw [z11 123 (by omega)]; exact s3_s
      refine ⟨t11, ?_, MP_if.mpr ⟨q1, fun v hv => (w11 v hv).trans (m2 v hv), fun b hb' => ?_⟩, fun j hj => by rw [z11 j (by omega), s3_n (by omega), s3_n (by omega)], by rw [z11 123 (by omega), s3_i (by omega)]; exact s3_s, fun i a b => by rw [z11 123 (by omega), s3_i b, s3_i a]⟩
      · show fX10_restoreSnapshot τ = _
        unfold fX10_restoreSnapshot
        rw [bd_q, up0, n2, if_neg (fun r => by have : P_n Q = 0 := (eq_li (c := 0) (by decide) (by omega)).mp r; omega), bd_q, show upm (s3 τ 0 0) 123 (upd (s3 τ 0 0 123) 1 (nI (P_n Q))) = s3 (s3 τ 0 0) 1 (nI (P_n Q)) from rfl, e1]
        simp only [obs]
        rw [e2]
        simp only [obs]
        rw [e3]
        simp only [obs]
        rw [e4]
        simp only [obs]
        rw [e5]
        simp only [obs]
        rw [e6]
        simp only [obs]
        rw [e7]
        simp only [obs]
        rw [e8]
        simp only [obs]
        rw [e9]
        simp only [obs]
        rw [e10]
        simp only [obs]
        rw [e11]
        simp only [obs]
        rw [bd_q, show upm t11 123 (upd (t11 123) 14 0) = s3 t11 14 0 from rfl, s3_i (by omega), q1]
      · obtain ⟨v0, v1, v2, v3, v4, v5, v6⟩ := m3 b hb'
        have h8 := hQ.2.1 b hb'
        refine ⟨(w1 b hb').trans v0, (w2 b hb').trans v1, fun q => (w3 b hb').trans (v2 q), fun q => (w4 b hb').trans (v3 q), fun q => (w5 b hb').trans (v4 q), (w6 b hb').trans v5, fun i hi => ⟨(w7 _ (by omega)).trans (v6 i hi).1, (w8 _ (by omega)).trans (v6 i hi).2.1, (w9 _ (by omega)).trans (v6 i hi).2.2.1, (w10 _ (by omega)).trans (v6 i hi).2.2.2⟩⟩
