/-! colours: the model -/
theorem m_low2 {σ : Mm} {x : Int32} (h : lo 12 x) : qX10_lowest_57 σ x FU 0 = some (nI (lm x)) := by
  have e : ∃ r, qX10_lowest_57 σ x FU 0 = some r ∧ r = nI (lm x) := by
    refine lp_inv1e (fun k => ∀ i, i < k → hb x i = true) 12 _ ?_ ?_ (fun i hi => by omega) (fu (by omega))
    · intro k hk hJ
      have e0 : ∀ rec, gX10_lowest_57 σ x rec (nI k) = if hb x k = false then some (nI k) else rec (nI (k + 1)) := by
        intro rec
        unfold gX10_lowest_57
        simp (disch := omega) only [obs, bd, jn, bn2, un2, bn3, un3, bns, nI_1, nI_clamp, gN, gN0, gN1, gN2, gN3, nI_leI, nI_ltI, nI_eq, li_le, li_lt, le_li, lt_li, eq_li, li_eq, li_mul, mul_li, add_li, nI_add, m_has, c_has, hI_0, bI_0]
      cases c : hb x k
      · exact Or.inl ⟨nI k, fun rec => by show gX10_lowest_57 σ x rec (nI k) = _; rw [e0, c, if_pos rfl], by rw [lm_uq hJ c (by omega)]⟩
      · refine Or.inr ⟨fun rec => by show gX10_lowest_57 σ x rec (nI k) = _; rw [e0, c, if_neg (by decide)], fun i hi => ?_⟩
        rcases Nat.lt_or_ge i k with q | q
        · exact hJ i q
        · have : i = k := by omega
          subst this; exact c
    · intro hJ
      refine ⟨nI 12, fun rec => ?_, by rw [lm_uq hJ (h 12 (Nat.le_refl _)) (Nat.le_refl _)]⟩
      show gX10_lowest_57 σ x rec (nI 12) = _
      have h12 := h 12 (Nat.le_refl _)
      unfold gX10_lowest_57
      simp (disch := omega) only [obs, bd, jn, bn2, un2, bn3, un3, bns, nI_1, nI_clamp, gN, gN0, gN1, gN2, gN3, nI_leI, nI_ltI, nI_eq, li_le, li_lt, le_li, lt_li, eq_li, li_eq, li_mul, mul_li, add_li, nI_add, m_has, c_has, hI_0, bI_0, h12, if_true]
  obtain ⟨r, e1, rfl⟩ := e
  exact e1
theorem m_lowest {σ : Mm} {S : Nat → Bool} {R : Nat → Int32} {C : Nat → Nat} {v a : Nat} {w : Int32} (hv : v < 12) (hR : σ 136 v = R v) (hS : ∀ u, u < v → (σ 139 u = w ↔ S u = true)) (hC : ∀ u, u < v → S u = true → σ a u = nI (C u)) (hl : lo 12 (tk S R C v)) : fX10_lowest σ (nI v) w a 12 = some (nI (lm (tk S R C v))) := by
  have e1 : qX10_lowest_6 σ (nI v) w a 12 FU (0, 0) = some (tk S R C v) := by
    refine lp_fr (fun u => (orF (fun u => if S u = true ∧ hb (R v) u = true then b1 (C u) else 0) u, nI u)) v rfl ?_ ?_ (fu (by omega))
    · intro u hu rec
      show gX10_lowest_6 σ (nI v) w a 12 rec (orF _ u) (nI u) = rec (orF _ u ||| _, nI (u + 1))
      unfold gX10_lowest_6
      simp (disch := omega) only [obs, bd, jn, bn2, un2, bn3, un3, bns, nI_1, nI_clamp, gN, gN0, gN1, gN2, gN3, nI_leI, nI_ltI, nI_eq, li_le, li_lt, le_li, lt_li, eq_li, li_eq, li_mul, mul_li, add_li, nI_add, m_has, c_has, hI_0, bI_0, if_neg, hR, hS u hu]
      cases q1 : S u
      · simp [orB0]
      · cases q2 : hb (R v) u
        · simp [orB0]
        · simp [b1, hC u hu q1]
    · intro rec
      show gX10_lowest_6 σ (nI v) w a 12 rec _ (nI v) = _
      unfold gX10_lowest_6
      simp (disch := omega) only [obs, bd, jn, bn2, un2, bn3, un3, bns, nI_1, nI_clamp, gN, gN0, gN1, gN2, gN3, nI_leI, nI_ltI, nI_eq, li_le, li_lt, le_li, lt_li, eq_li, li_eq, li_mul, mul_li, add_li, nI_add, m_has, c_has, hI_0, bI_0, if_pos]
      rfl
  unfold fX10_lowest
  rw [e1]
  simp only [obs]
  rw [m_low2 hl]
  rfl
theorem m_colours {σ : Mm} {S : Nat → Bool} {R : Nat → Int32} (hS : ∀ v, v < 12 → (σ 139 v = 0 ↔ S v = true)) (hR : ∀ v, v < 12 → σ 136 v = R v) : fX10_colours σ = some (nI (mxc S R 12), upm σ 140 (fun v => if v < 12 then cv S R v else σ 140 v)) := by
  have e : qX10_colours_4 FU (σ, 0, 0) = some (upm σ 140 (fun v => if v < 12 then cv S R v else σ 140 v), nI (mxc S R 12)) := by
    refine lp_fr (fun k => (upm σ 140 (fun v => if v < k then cv S R v else σ 140 v), nI (mxc S R k), nI k)) 12 (by simp [upm_id]; exact ⟨rfl, rfl⟩) ?_ ?_ (fu (by omega))
    · intro k hk rec
      show gX10_colours_4 rec (upm σ 140 (fun v => if v < k then cv S R v else σ 140 v)) (nI (mxc S R k)) (nI k) = rec (upm σ 140 (fun v => if v < k + 1 then cv S R v else σ 140 v), nI (mxc S R (k + 1)), nI (k + 1))
      generalize hF : upd (fun v => if v < k then cv S R v else σ 140 v) k (-1) = F
      have hf : ∀ u, u < k → S u = true → upm σ 140 F 140 u = nI (CG S R u) := fun u hu q => by
        rw [upm_s, ← hF, upd_a, if_neg (by omega), if_pos hu]
        exact if_pos q
      have hlo := tk_lo12 (S := S) (R := R) hk
      have e2 := m_lowest (σ := upm σ 140 F) (S := S) (R := R) (C := CG S R) (v := k) (a := 140) (w := 0) hk (by rw [upm_n (by omega)]; exact hR k hk) (fun u hu => by rw [upm_n (by omega)]; exact hS u (by omega)) hf hlo
      rw [← CG_eq hk] at e2
      have h1 := @mxc_le S R k (by omega)
      have h2 := @CG_le S R k (by omega)
      have r1 : upm σ 140 F 139 k = σ 139 k := by rw [upm_n (by omega)]
      have hSk := hS k hk
      unfold gX10_colours_4
      simp (disch := omega) only [obs, bd, jn, bn2, un2, bn3, un3, bns, nI_1, nI_clamp, gN, gN0, gN1, gN2, gN3, nI_leI, nI_ltI, nI_eq, li_le, li_lt, le_li, lt_li, eq_li, li_eq, li_mul, mul_li, add_li, nI_add, m_has, c_has, hI_0, bI_0, if_neg, upm_s, upm_u, hF, r1, hSk]
      rw [e2]
      simp (disch := omega) only [obs, bd, jn, bn2, un2, bn3, un3, bns, nI_1, nI_clamp, gN, gN0, gN1, gN2, gN3, nI_leI, nI_ltI, nI_eq, li_le, li_lt, le_li, lt_li, eq_li, li_eq, li_mul, mul_li, add_li, nI_add, m_has, c_has, hI_0, bI_0, upm_s, upm_u, upd_a, if_true]
      rw [mxp _ (by omega) _ (by omega)]
      by_cases q : S k = true
      · rw [if_pos q]
        simp only [mxc]
        rw [if_pos q, ← hF]
        congr 3
        funext v
        rw [upd_a]
        by_cases h : v = k
        · subst h
          rw [if_pos rfl, if_pos (by omega)]
          unfold cv
          rw [if_pos q]
        · rw [if_neg h, upd_a, if_neg h]
          by_cases h2 : v < k
          · rw [if_pos h2, if_pos (by omega)]
          · rw [if_neg h2, if_neg (by omega)]
      · rw [if_neg q]
        simp only [mxc]
        rw [if_neg q, ← hF]
        congr 3
        funext v
        rw [upd_a]
        by_cases h : v = k
        · subst h
          rw [if_pos rfl, if_pos (by omega)]
          unfold cv
          rw [if_neg q]
        · rw [if_neg h]
          by_cases h2 : v < k
          · rw [if_pos h2, if_pos (by omega)]
          · rw [if_neg h2, if_neg (by omega)]
    · intro rec
      show gX10_colours_4 rec (upm σ 140 (fun v => if v < 12 then cv S R v else σ 140 v)) (nI (mxc S R 12)) (nI 12) = _
      unfold gX10_colours_4
      simp (disch := omega) only [obs, bd, jn, bn2, un2, bn3, un3, bns, nI_1, nI_clamp, gN, gN0, gN1, gN2, gN3, nI_leI, nI_ltI, nI_eq, li_le, li_lt, le_li, lt_li, eq_li, li_eq, li_mul, mul_li, add_li, nI_add, m_has, c_has, hI_0, bI_0, if_pos]
  unfold fX10_colours
  rw [e]
  rfl
def h0 (P : Pg) (v : Nat) : Int32 := if uV P v = true then 0 else -1
/-- what the model has found -/
def MA (σ : Mm) (P : Pg) : Prop := MP σ 124 1 P ∧ ML σ P ∧ ∀ v, v < 12 → σ 136 v = RV P v
theorem MA_fq {S : List Nat} {σ σ' : Mm} {P : Pg} (h : Fq S σ σ') (hs : ∀ j, j ∈ S → j < 123 ∨ 136 < j) (hm : MA σ P) : MA σ' P := by
  have k : ∀ j, 123 ≤ j → j ≤ 136 → σ' j = σ j := fun j h1 h2 => h j (fun q => by have := hs j q; omega)
  obtain ⟨h1, h2, h3⟩ := hm
  refine ⟨MP_cg (by rw [k 123 (by omega) (by omega)]) (fun j a b => k j (by omega) (by omega)) h1, fun t ht => ?_, fun v hv => ?_⟩
  · rw [k 135 (by omega) (by omega)]; exact h2 t ht
  · rw [k 136 (by omega) (by omega)]; exact h3 v hv
theorem MA.up {σ : Mm} {P : Pg} {k : Nat} {f : Nat → Int32} (h : MA σ P) (hk : 136 < k) : MA (upm σ k f) P := MA_fq (S := [k]) (Fq_rf.up (by simp)) (fun j hj => Or.inr (by rw [List.mem_singleton.mp hj]; exact hk)) h
theorem m_conf {σ : Mm} {P : Pg} (hw : WP P) (hm : MP σ 124 1 P) : ∃ σ', fX10_layConflicts σ = some σ' ∧ Fq [135, 136] σ σ' ∧ MA σ' P := by
  refine ⟨_, m_layConflicts hw hm, (Fq_rf.up (by simp)).up (by simp), ?_, ?_, ?_⟩
  · exact (hm.up (by omega)).up (by omega)
  · intro t ht
    rw [upm_n (by omega), upm_s]
    exact if_pos ht
  · intro v hv
    rw [upm_s]
    exact RV_of hw hv
theorem m_begins {σ : Mm} {P : Pg} (hw : WP P) (hm : MP σ 124 1 P) : ∃ σ', fX10_begins σ = some σ' ∧ Fq [135, 136, 139, 141] σ σ' ∧ MA σ' P ∧ (∀ v, v < 12 → σ' 139 v = h0 P v) ∧ ∀ v, v < 12 → σ' 141 v = -1 := by
  obtain ⟨s1, e1, f1, a1⟩ := m_conf hw hm
  have key : ∃ σ', qX10_begins_6 FU (s1, 0) = some σ' ∧ (Fq [139, 141] s1 σ' ∧ (∀ v, v < 12 → σ' 139 v = h0 P v) ∧ ∀ v, v < 12 → σ' 141 v = -1) := by
    refine lp_inv2 (fun k s => Fq [139, 141] s1 s ∧ (∀ v, v < k → s 139 v = h0 P v) ∧ ∀ v, v < k → s 141 v = -1) 12 _ ?_ ?_ ⟨Fq_rf, fun v hv => by omega, fun v hv => by omega⟩ (fu (by omega))
    · rintro k s hk ⟨g1, g2, g3⟩
      have a2 : MA s P := MA_fq g1 (by simp) a1
      have e0 : ∀ rec, gX10_begins_6 rec s (nI k) = rec (upm (upm s 139 (upd (s 139) k (h0 P k))) 141 (upd (s 141) k (-1)), nI (k + 1)) := by
        intro rec
        unfold gX10_begins_6
        simp (disch := omega) only [obs, bd, jn, bn2, un2, bn3, un3, bns, nI_1, nI_clamp, gN, gN0, gN1, gN2, gN3, nI_leI, nI_ltI, nI_eq, li_le, li_lt, le_li, lt_li, eq_li, li_eq, li_mul, mul_li, add_li, nI_add, m_has, c_has, hI_0, bI_0, if_neg, m_isUsed hw a2.1, upm_n, ne_eq]
        unfold h0
        cases uV P k <;> simp
      refine ⟨_, e0, (g1.up (by simp)).up (by simp), fun v hv => ?_, fun v hv => ?_⟩
      · rw [upm_n (by omega), upm_s, upd_a]
        by_cases h : v = k
        · rw [if_pos h, h]
        · rw [if_neg h]; exact g2 v (by omega)
      · rw [upm_s, upd_a]
        by_cases h : v = k
        · rw [if_pos h]
        · rw [if_neg h]; exact g3 v (by omega)
    · rintro s ⟨g1, g2, g3⟩
      refine ⟨s, fun rec => ?_, g1, g2, g3⟩
      show gX10_begins_6 rec s (nI 12) = _
      unfold gX10_begins_6
      simp (disch := omega) only [obs, bd, jn, bn2, un2, bn3, un3, bns, nI_1, nI_clamp, gN, gN0, gN1, gN2, gN3, nI_leI, nI_ltI, nI_eq, li_le, li_lt, le_li, lt_li, eq_li, li_eq, li_mul, mul_li, add_li, nI_add, m_has, c_has, hI_0, bI_0, if_pos]
  obtain ⟨s2, e2, g1, g2, g3⟩ := key
  refine ⟨s2, ?_, (f1.wk (by simp)).tr g1 (by simp), MA_fq g1 (by simp) a1, g2, g3⟩
  unfold fX10_begins
  rw [e1]
  simp only [obs]
  rw [e2]
  rfl
