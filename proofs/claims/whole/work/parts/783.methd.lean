/-! plan and run -/
def METP (f g : Mm → Option (Int32 × Mm)) (σ : Mm) : Prop := ∃ a σ1 τ1, f σ = some (a, σ1) ∧ g σ1 = some (a, τ1) ∧ IV τ1
theorem me_pressure {σ : Mm} (h : IV σ) : METP fX9_pressure fX10_pressure σ := by
  obtain ⟨P, hP⟩ := h
  obtain ⟨s, e, hP1, ha, -, -, -⟩ := iv_an hP
  obtain ⟨τ1, g1, g2⟩ := m_pressure hP1.1 hP1.2.2.1
  refine ⟨_, s, τ1, ?_, g1, P, IV_q hP1 g2 (by simp [JK]) (fun i _ => by rw [g2 123 (by simp)])⟩
  unfold fX9_pressure
  rw [e]
  simp only [obs]
  rw [c_pressure hP1.1 hP1.2.1 ha]
  rfl
theorem me_loops {σ : Mm} (h : IV σ) : METP fX9_loops fX10_loops σ := by
  obtain ⟨P, hP⟩ := h
  obtain ⟨s, e, hP1, ha, -, -, -⟩ := iv_an hP
  obtain ⟨τ1, g1, g2, g3, g4⟩ := m_loops hP1.1 hP1.2.2.1
  refine ⟨nI (LC P), s, τ1, ?_, ?_, P, IV_q hP1 g2 (by simp [JK]) (fun i hi => g3 i (by omega))⟩
  · unfold fX9_loops
    rw [e]
    simp only [obs]
    rw [ha.2.2.2.1]
  · unfold fX10_loops
    rw [g1]
    simp only [obs]
    rw [g4.1]
theorem me_enough {σ : Mm} (h : IV σ) : METP fX9_enough fX10_enough σ := by
  obtain ⟨P, hP⟩ := h
  obtain ⟨s, e, f, i, t, a⟩ := c_enough hP.1 hP.2.1 hP.2.2.2.1
  have hk : ∀ j, j ≠ 0 → j ≠ 120 → (j < 88 ∨ 96 < j) → s j = σ j := fun j h0 h1 hj => f j (fun q => by simp at q; omega)
  have hP1 : IVp P s := IV_tr hP (fun j hj => hk j (by omega) (by omega) (by omega)) ⟨i 11 (by omega), i 12 (by omega)⟩ (fun k _ => by rw [hk 123 (by omega) (by omega) (by omega)]) (by rw [hk 113 (by omega) (by omega) (by omega)]) (fun v _ => by rw [hk 139 (by omega) (by omega) (by omega), hk 140 (by omega) (by omega) (by omega), hk 141 (by omega) (by omega) (by omega)]; exact ⟨rfl, rfl, rfl⟩) (Or.inr ⟨t, a⟩)
  obtain ⟨τ1, g1, g2, g3⟩ := m_enough hP1.1 hP1.2.2.1
  have hk2 : ∀ j, j ≠ 135 → j ≠ 136 → (j < 139 ∨ 141 < j) → (j < 143 ∨ 145 < j) → τ1 j = s j := fun j h0 h1 hj hj2 => g2 j (fun q => by simp at q; omega)
  refine ⟨_, s, τ1, e, g1, P, IV_tr hP1 (fun j hj => hk2 j (by omega) (by omega) (by omega) (by omega)) ?_ (fun k _ => by rw [hk2 123 (by omega) (by omega) (by omega) (by omega)]) (by rw [hk2 113 (by omega) (by omega) (by omega) (by omega)]) g3 (Or.inl ⟨?_, fun j a b => hk2 j (by omega) (by omega) (by omega) (by omega)⟩)⟩
  · rw [hk2 0 (by omega) (by omega) (by omega) (by omega)]; exact ⟨rfl, rfl⟩
  · rw [hk2 0 (by omega) (by omega) (by omega) (by omega)]
theorem PLc_cg {σ σ' : Mm} {P : Pg} {x : Int32} {k : Nat} (h : ∀ j, (1 ≤ j ∧ j ≤ 43) ∨ (88 ≤ j ∧ j ≤ 103) → σ' j = σ j) (p : PLc σ P x k) : PLc σ' P x k := by
  obtain ⟨⟨b1', b2, b3, b4, b5, b6⟩, b7, b8, b9, b10⟩ := p
  refine ⟨⟨CP_cg (fun k a b => h k (by omega)) b1', AN_cg (fun k a b => h k (by omega)) b2, ?_, fun v hv => ?_, fun v hv => ?_, fun l hl => ?_⟩, fun v hv => ?_, fun v l hv hl => ?_, ?_, ?_⟩
  · rw [h 97 (by omega)]; exact b3
  · rw [h 98 (by omega)]; exact b4 v hv
  · rw [h 99 (by omega)]; exact b5 v hv
  · rw [h 102 (by omega), h 103 (by omega)]; exact b6 l hl
  · rw [h 100 (by omega)]; exact b7 v hv
  · rw [h 101 (by omega)]; exact b8 v l hv hl
  · rw [h 97 (by omega)]; exact b9
  · rw [h 97 (by omega)]; exact b10
theorem PLm_cg {σ σ' : Mm} {P : Pg} {x : Int32} {k : Nat} (h : ∀ j, 139 ≤ j → j ≤ 142 → σ' j = σ j) (h3 : ∀ i, 20 ≤ i → i ≤ 22 → σ' 123 i = σ 123 i) (p : PLm σ P x k) : PLm σ' P x k := by
  obtain ⟨b1', b2, b3, b4, b5, b6, b7⟩ := p
  unfold PLm MT
  rw [h 139 (by omega) (by omega), h 140 (by omega) (by omega), h 141 (by omega) (by omega), h 142 (by omega) (by omega), h3 20 (by omega) (by omega), h3 21 (by omega) (by omega), h3 22 (by omega) (by omega)]
  exact ⟨b1', b2, b3, b4, b5, b6, b7⟩
theorem IV_cn {P : Pg} {σ σ' : Mm} (h : IVp P σ) (hq : ∀ j, j ≠ 121 → j ≠ 122 → j ≠ 149 → j ≠ 151 → σ' j = σ j) (hc : CNT σ') : IVp P σ' := by
  obtain ⟨w, c, m, a, p, s, -, r⟩ := h
  have e : ∀ j, j < 121 ∨ (122 < j ∧ j < 149) ∨ 151 < j → σ' j = σ j := fun j hj => hq j (by omega) (by omega) (by omega) (by omega)
  refine ⟨w, CP_cg (fun k _ _ => e k (by omega)) c, MP_cg (by rw [e 123 (by omega)]) (fun k _ _ => e k (by omega)) m, ?_, ?_, SNP_cg (fun k _ _ => e k (by omega)) (fun k _ _ => e k (by omega)) (by rw [e 0 (by omega)]) (by rw [e 123 (by omega)]) s, hc, RDR_cg (by rw [e 113 (by omega)]) (by rw [e 123 (by omega)]) (e 114 (by omega)) (e 154 (by omega)) r⟩
  · rw [e 0 (by omega)]
    exact a.elim Or.inl (fun q => Or.inr ⟨q.1, AN_cg (fun k _ _ => e k (by omega)) q.2⟩)
  · unfold PLN
    rw [e 0 (by omega), e 123 (by omega)]
    rcases p with p | ⟨p1, p2, p3, x, k, p4, p5, p6⟩
    · exact Or.inl p
    · exact Or.inr ⟨p1, p2, p3, x, k, p4, PLc_cg (fun j _ => e j (by omega)) p5, PLm_cg (fun j _ _ => e j (by omega)) (fun i _ _ => by rw [e 123 (by omega)]) p6⟩
theorem ix1 (x : Int32) {n : Nat} (h : n < 2 ^ 30) : (x < 1 ∨ nI (n + 1) ≤ x) ∨ ∃ b, 1 ≤ b ∧ b ≤ n ∧ x = nI b := by
  rcases pk_ix x (n := n + 1) (by omega) with q | q | ⟨b, q, r⟩
  · refine Or.inl (Or.inl ?_)
    rw [lt_iff] at q ⊢
    have e1 : (1 : Int32).toInt = 1 := by decide
    have e0 : (0 : Int32).toInt = 0 := by decide
    omega
  · exact Or.inl (Or.inr q)
  · rcases Nat.eq_zero_or_pos b with e | e
    · subst e; exact Or.inl (Or.inl (by rw [r]; decide))
    · exact Or.inr ⟨b, e, by omega, r⟩
theorem m_in1 {τ : Mm} {m : Nat} (hm : m < 2 ^ 30) (x : Int32) : fX10_in τ x 1 (nI m) = some (if x < 1 ∨ nI (m + 1) ≤ x then 0 else 1) := by
  unfold fX10_in
  by_cases a : x < 1
  · rw [if_pos a, if_pos (Or.inl a)]
  · rw [if_neg a]
    have e : nI m < x ↔ nI (m + 1) ≤ x := by
      rw [lt_iff, le_iff, nI_toInt (by omega), nI_toInt (by omega)]
      omega
    by_cases b : nI m < x
    · rw [if_pos b, if_pos (Or.inr (e.mp b))]
    · rw [if_neg b, if_neg (fun q => q.elim a (fun r => b (e.mpr r)))]
theorem nx1 {i n : Nat} (h1 : 1 ≤ i) (h : i ≤ n) (hn : n < 2 ^ 30) : ¬ (nI i < 1 ∨ nI (n + 1) ≤ nI i) := fun q => q.elim (fun r => by have := (lt_li (c := 1) (by decide) (by omega)).mp r; have e : (OfNat.ofNat 1 : Nat) = 1 := rfl; omega) (fun r => by have := (nI_leI (by omega) (by omega)).mp r; omega)
theorem le_bad1 {x : Int32} {n : Nat} (hn : n < 2 ^ 30) (h : x < 1 ∨ nI (n + 1) ≤ x) (a : ¬ x < 1) : ¬ x ≤ nI n := fun q => by
  rcases h with h | h
  · exact a h
  · have h1 := (le_iff _ _).mp h
    have h2 := (le_iff _ _).mp q
    rw [nI_toInt (by omega)] at h1 h2
    omega
theorem ge1 {i : Nat} (h1 : 1 ≤ i) (h : i < 2 ^ 30) : ¬ nI i < 1 := fun r => by have := (lt_li (c := 1) (by decide) (by omega)).mp r; have e : (OfNat.ofNat 1 : Nat) = 1 := rfl; omega
theorem me_plan {σ : Mm} (h : IV σ) (x y : Int32) (hy : y = 0 ∨ y = 1) : METH (fun σ => fX9_plan σ x y) (fun τ => fX10_plan τ x y) [1] σ := by
  obtain ⟨P, hP⟩ := h
  have hw := hP.1
  rcases ix1 x (n := 12) (by omega) with hx | ⟨k, h1, hk, rfl⟩
  · refine me_f0 hP 1 1 (by decide) (by decide) rfl ?_ (fun τ hτ => ?_)
    · show fX9_plan σ x y = _
      unfold fX9_plan
      by_cases a : x < 1
      · rw [if_pos a]
      · rw [if_neg a, if_neg (show ¬ x ≤ 12 from le_bad1 (n := 12) (by omega) hx a)]
    · show fX10_plan τ x y = _
      unfold fX10_plan
      simp only [bd]
      rw [up0, show fX10_in (s3 τ 0 0) x 1 12 = _ from m_in1 (m := 12) (by omega) x, if_pos hx]
      rfl
  · obtain ⟨s, e, hP1, ha, t, q1, q2⟩ := iv_an hP
    obtain ⟨s2, e2, f2, pc⟩ := c_make hw hP1.2.1 ha hk hy
    have pc3 : PLc (upm s2 0 (upd (s2 0) 12 1)) P y k := PLc_cg (fun j hj => upm_n (by omega)) pc
    refine me_ok (σ1 := upm s2 0 (upd (s2 0) 12 1)) (a := nI (cnt (sA (HZ P y k) 1) 12)) ?_ (fun τ hτ => ?_)
    · show fX9_plan σ (nI k) y = _
      unfold fX9_plan
      rw [if_neg (ge1 h1 (by omega)), if_pos (show nI k ≤ 12 from (nI_leI (b := 12) (by omega) (by omega)).mpr hk), e]
      simp only [obs]
      rw [e2]
      simp only [obs, bd]
      rw [c_countAt pc3.1.2.2.2.1]
      rfl
    · have t1 : ∀ j, j ≠ 0 → (j < 97 ∨ 103 < j) → j ≠ 170 → τ j = s j := fun j a b c => by rw [hτ j c, upm_n a, f2 j (fun q => by simp at q; omega)]
      have hm : MP τ 124 1 P := MP_cg (by rw [t1 123 (by omega) (by omega) (by omega)]) (fun j _ _ => t1 j (by omega) (by omega) (by omega)) hP1.2.2.1
      obtain ⟨τ1, g1, g2, g3, g4, g5, g6⟩ := m_planAll (x := y) hw hm hk h1
      have t2 : ∀ j, j ≠ 0 → (j < 97 ∨ 103 < j) → j ≠ 170 → j ≠ 123 → (j < 135 ∨ 142 < j) → τ1 j = s j := fun j a b c d i => by rw [g2 j (fun q => by simp at q; omega), t1 j a b c]
      have z0 : τ1 0 = upd (s2 0) 12 1 := by rw [g2 0 (by simp), hτ 0 (by omega), upm_s]
      have z2 : s2 0 = s 0 := f2 0 (by simp)
      have t3 : ∀ i, i = 1 ∨ i = 2 ∨ i = 43 → τ1 123 i = s 123 i := fun i hi => by rw [g3 i (by omega) (by omega) (by omega) (by omega) (by omega) (by omega), t1 123 (by omega) (by omega) (by omega)]
      refine ⟨τ1, g1, g2 170 (by simp), g4, P, hw, CP_cg (fun j _ _ => t2 j (by omega) (by omega) (by omega) (by omega) (by omega)) hP1.2.1, MP_cg (t3 1 (by omega)) (fun j _ _ => t2 j (by omega) (by omega) (by omega) (by omega) (by omega)) hP1.2.2.1, Or.inr ⟨?_, AN_cg (fun j _ _ => t2 j (by omega) (by omega) (by omega) (by omega) (by omega)) ha⟩, Or.inr ⟨?_, g5, ?_, y, k, hk, ?_, g6⟩, SNP_cg (fun j _ _ => t2 j (by omega) (by omega) (by omega) (by omega) (by omega)) (fun j _ _ => t2 j (by omega) (by omega) (by omega) (by omega) (by omega)) ?_ (t3 2 (by omega)) hP1.2.2.2.2.2.1, CNT_cg (t2 121 (by omega) (by omega) (by omega) (by omega) (by omega)) (t2 122 (by omega) (by omega) (by omega) (by omega) (by omega)) (t2 149 (by omega) (by omega) (by omega) (by omega) (by omega)) (t2 151 (by omega) (by omega) (by omega) (by omega) (by omega)) hP1.2.2.2.2.2.2.1, RDR_cg ?_ (t3 43 (by omega)) (t2 114 (by omega) (by omega) (by omega) (by omega) (by omega)) (t2 154 (by omega) (by omega) (by omega) (by omega) (by omega)) hP1.2.2.2.2.2.2.2⟩
      · rw [z0, upd_a, if_neg (by omega), z2]; exact t
      · rw [z0, upd_a, if_pos rfl]
      · rw [z0, upd_a, if_neg (by omega), z2]; exact t
      · exact PLc_cg (fun j hj => by rw [g2 j (fun q => by simp at q; omega), hτ j (by omega)]) pc3
      · rw [z0, upd_a, if_neg (by omega), z2]
      · rw [t2 113 (by omega) (by omega) (by omega) (by omega) (by omega)]
