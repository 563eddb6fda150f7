/-! the machine with a plan: from the beginning -/
theorem live_H {P : Pg} {H : Nat → Int32} (hw : WP P) (h : okH P H) {v : Nat} (hv : v < 12) (hl : hb (LV P 0) v = true) : H v = 0 ∨ H v = 1 := by
  rcases H_used h hv (LV_u hw.1.1 hv hl) with c | c | ⟨c, cr⟩
  · exact Or.inl c
  · exact Or.inr c
  · exfalso
    have hcR := of_decide_eq_true cr
    rw [if_pos hl] at hcR
    have sE := @sDCE P v (P_n P)
    omega
def PJ (σ0 τ0 σs τs : Mm) (P : Pg) (H : Nat → Int32) (n : Nat) (σ τ : Mm) : Prop := Fq SC σ0 σ ∧ FrM τ0 τ ∧ σ 107 = σs 107 ∧ σ 108 = σs 108 ∧ τ 150 = τs 150 ∧ τ 152 = τs 152 ∧ τ 123 = τs 123 ∧ ∀ v, v < n → hb (LV P 0) v = true → (H v = 0 → σ 109 (co P H v) = τ 147 (co P H v)) ∧ (H v = 1 → σ 110 (sl' P H v) = τ 148 (sl' P H v))
theorem q_prep {σ0 τ0 σs τs : Mm} {P : Pg} {H : Nat → Int32} {k : Nat} {T : Nat → Nat → Int32} (ho : OKp P H k T) (hsq : SQ σ0 P H k T) (hsm : SM τ0 P H T) (h1 : Fq SC σ0 σs) (h2 : FrM τ0 τs) : ∃ σ' τ', qX6_prepare_30 (LV P 0) FU (σs, 0) = some σ' ∧ qX10_enters_2 FU (τs, 0) = some τ' ∧ PJ σ0 τ0 σs τs P H 12 σ' τ' := by
  have hw := ho.1
  have hn0 := hw.1.1
  refine lp_tw (sA' := fun rec s => gX6_prepare_30 (LV P 0) rec s.1 s.2) (sB := fun rec s => gX10_enters_2 rec s.1 s.2) (PJ σ0 τ0 σs τs P H) 12 _ ?_ ?_ ⟨h1, h2, rfl, rfl, rfl, rfl, rfl, fun v hv => by omega⟩ (fu (by omega))
  · rintro v σ τ hv ⟨q1, q2, q3, q4, q5, q6, q7, q8⟩
    generalize hτa : upm τ 146 (upd (τ 146) v (τ 134 v)) = τa
    have Fa : FrM τ0 τa := hτa ▸ q2.up (by simp)
    have ta : ∀ j, j ≠ 146 → τa j = τ j := fun j hj => by rw [← hτa, upm_n hj]
    have hs := SQ_fq q1 hsq
    have ht := SM_fr Fa hsm
    have e98 := hs.1.2.2.2.1 v hv
    have e99 := hs.1.2.2.2.2.1 v hv
    have e100 := hs.2.1 v hv
    have e3 : σ 3 v = P_i P v := hs.1.1.2.1 v hv
    have e139 := ht.2.2.2.1 v hv
    have e140 := ht.2.2.2.2.1 v hv
    have e141 := ht.2.2.2.2.2.1 v hv
    have e40 : ¬ τa 123 40 = 0 := by rw [ht.2.2.2.2.2.2.2]; decide
    have e135 : τa 135 (Int32.toNatClampNeg 0) = LV P 0 := ht.2.1 0 hn0
    have e134 : τa 134 v = P_i P v := ht.1.2.1 v hv
    have eM : ∀ rec, gX10_enters_2 rec τ (nI v) = if hb (LV P 0) v = false then rec (τa, nI (v + 1)) else if H v = 0 then gd (cv (sA H 0) (RV P) v) 12 (rec (upm τa 147 (upd (τa 147) (cv (sA H 0) (RV P) v).toNatClampNeg (P_i P v)), nI (v + 1))) else gd (cv (sA H 1) (RV P) v) 12 (rec (upm τa 148 (upd (τa 148) (cv (sA H 1) (RV P) v).toNatClampNeg (P_i P v)), nI (v + 1))) := by
      intro rec
      unfold gX10_enters_2
      simp (disch := omega) only [obs, bd, jn, bn2, un2, bn3, un3, bns, nI_1, nI_clamp, gN, gN0, gN1, gN2, gN3, nI_leI, nI_ltI, nI_eq, li_le, li_lt, le_li, lt_li, eq_li, li_eq, li_mul, mul_li, add_li, nI_add, m_has, c_has, hI_0, bI_0, if_neg]
      rw [hτa, if_neg e40]
      simp (disch := omega) only [obs, bd, jn, bn2, un2, bn3, un3, bns, nI_1, nI_clamp, gN, gN0, gN1, gN2, gN3, nI_leI, nI_ltI, nI_eq, li_le, li_lt, le_li, lt_li, eq_li, li_eq, li_mul, mul_li, add_li, nI_add, m_has, c_has, hI_0, bI_0, e135, e139, e140, e141, e134]
    have eC : ∀ rec, gX6_prepare_30 (LV P 0) rec σ (nI v) = if hb (LV P 0) v = false then rec (σ, nI (v + 1)) else (fX6_placeInitial σ (nI v)).bind fun s => rec (s, nI (v + 1)) := by
      intro rec
      unfold gX6_prepare_30
      simp (disch := omega) only [obs, bd, jn, bn2, un2, bn3, un3, bns, nI_1, nI_clamp, gN, gN0, gN1, gN2, gN3, nI_leI, nI_ltI, nI_eq, li_le, li_lt, le_li, lt_li, eq_li, li_eq, li_mul, mul_li, add_li, nI_add, m_has, c_has, hI_0, bI_0, if_neg]
    by_cases c : hb (LV P 0) v = false
    · refine ⟨σ, τa, fun rec => (eC rec).trans (if_pos c), fun rec => (eM rec).trans (if_pos c), q1, Fa, q3, q4, by rw [ta 150 (by omega)]; exact q5, by rw [ta 152 (by omega)]; exact q6, by rw [ta 123 (by omega)]; exact q7, fun u hu hl => ?_⟩
      rw [ta 147 (by omega), ta 148 (by omega)]
      rcases Nat.lt_or_ge u v with r | r
      · exact q8 u r hl
      · have : u = v := by omega
        subst this
        rw [c] at hl; cases hl
    · have hl : hb (LV P 0) v = true := by simpa using c
      rcases live_H hw ho.2.1 hv hl with h0 | h0
      · have lc := co_i (P := P) (H := H) hv
        have eP : fX6_placeInitial σ (nI v) = some (upm σ 109 (upd (σ 109) (co P H v) (P_i P v))) := by
          unfold fX6_placeInitial
          simp (disch := omega) only [obs, bd, jn, bn2, un2, bn3, un3, bns, nI_1, nI_clamp, gN, gN0, gN1, gN2, gN3, nI_leI, nI_ltI, nI_eq, li_le, li_lt, le_li, lt_li, eq_li, li_eq, li_mul, mul_li, add_li, nI_add, m_has, c_has, hI_0, bI_0, e98, e99, e3]
          rw [if_pos h0, cv0 h0]
          simp (disch := omega) only [obs, bd, jn, bn2, un2, bn3, un3, bns, nI_1, nI_clamp, gN, gN0, gN1, gN2, gN3, nI_leI, nI_ltI, nI_eq, li_le, li_lt, le_li, lt_li, eq_li, li_eq, li_mul, mul_li, add_li, nI_add, m_has, c_has, hI_0, bI_0]
        refine ⟨_, _, fun rec => (eC rec).trans ((if_neg c).trans (by rw [eP]; rfl)), fun rec => (eM rec).trans ((if_neg c).trans ((if_pos h0).trans (by rw [cv0 h0]; exact gN (by omega) (by omega)))), q1.up (by simp [SC]), Fa.up (by simp), by rw [upm_n (by omega)]; exact q3, by rw [upm_n (by omega)]; exact q4, by rw [upm_n (by omega), ta 150 (by omega)]; exact q5, by rw [upm_n (by omega), ta 152 (by omega)]; exact q6, by rw [upm_n (by omega), ta 123 (by omega)]; exact q7, fun u hu hl2 => ⟨fun hH => ?_, fun hH => ?_⟩⟩
        · rw [upm_s, upm_s, ta 147 (by omega), nI_clamp (by omega)]
          rcases Nat.lt_or_ge u v with r | r
          · exact eqw ((q8 u r hl2).1 hH)
          · have : u = v := by omega
            subst this; exact eqw2
        · rw [upm_n (by omega), upm_n (by omega), ta 148 (by omega)]
          rcases Nat.lt_or_ge u v with r | r
          · exact (q8 u r hl2).2 hH
          · have : u = v := by omega
            subst this
            rw [h0] at hH; exact absurd hH (by decide)
      · have ls := sl_i (P := P) (H := H) hv
        have hn0' : ¬ H v = 0 := by rw [h0]; decide
        have eP : fX6_placeInitial σ (nI v) = some (upm σ 110 (upd (σ 110) (sl' P H v) (P_i P v))) := by
          unfold fX6_placeInitial
          simp (disch := omega) only [obs, bd, jn, bn2, un2, bn3, un3, bns, nI_1, nI_clamp, gN, gN0, gN1, gN2, gN3, nI_leI, nI_ltI, nI_eq, li_le, li_lt, le_li, lt_li, eq_li, li_eq, li_mul, mul_li, add_li, nI_add, m_has, c_has, hI_0, bI_0, e98, e100, e3]
          rw [if_neg hn0', if_pos h0, cv1 h0]
          simp (disch := omega) only [obs, bd, jn, bn2, un2, bn3, un3, bns, nI_1, nI_clamp, gN, gN0, gN1, gN2, gN3, nI_leI, nI_ltI, nI_eq, li_le, li_lt, le_li, lt_li, eq_li, li_eq, li_mul, mul_li, add_li, nI_add, m_has, c_has, hI_0, bI_0]
        refine ⟨_, _, fun rec => (eC rec).trans ((if_neg c).trans (by rw [eP]; rfl)), fun rec => (eM rec).trans ((if_neg c).trans ((if_neg hn0').trans (by rw [cv1 h0]; exact gN (by omega) (by omega)))), q1.up (by simp [SC]), Fa.up (by simp), by rw [upm_n (by omega)]; exact q3, by rw [upm_n (by omega)]; exact q4, by rw [upm_n (by omega), ta 150 (by omega)]; exact q5, by rw [upm_n (by omega), ta 152 (by omega)]; exact q6, by rw [upm_n (by omega), ta 123 (by omega)]; exact q7, fun u hu hl2 => ⟨fun hH => ?_, fun hH => ?_⟩⟩
        · rw [upm_n (by omega), upm_n (by omega), ta 147 (by omega)]
          rcases Nat.lt_or_ge u v with r | r
          · exact (q8 u r hl2).1 hH
          · have : u = v := by omega
            subst this
            exact absurd hH hn0'
        · rw [upm_s, upm_s, ta 148 (by omega), nI_clamp (by omega)]
          rcases Nat.lt_or_ge u v with r | r
          · exact eqw ((q8 u r hl2).2 hH)
          · have : u = v := by omega
            subst this; exact eqw2
  · rintro σ τ hJ
    refine ⟨σ, τ, fun rec => ?_, fun rec => ?_, hJ⟩
    · show gX6_prepare_30 (LV P 0) rec σ (nI 12) = _
      unfold gX6_prepare_30
      simp (disch := omega) only [obs, bd, jn, bn2, un2, bn3, un3, bns, nI_1, nI_clamp, gN, gN0, gN1, gN2, gN3, nI_leI, nI_ltI, nI_eq, li_le, li_lt, le_li, lt_li, eq_li, li_eq, li_mul, mul_li, add_li, nI_add, m_has, c_has, hI_0, bI_0, if_pos]
    · show gX10_enters_2 rec τ (nI 12) = _
      unfold gX10_enters_2
      simp (disch := omega) only [obs, bd, jn, bn2, un2, bn3, un3, bns, nI_1, nI_clamp, gN, gN0, gN1, gN2, gN3, nI_leI, nI_ltI, nI_eq, li_le, li_lt, le_li, lt_li, eq_li, li_eq, li_mul, mul_li, add_li, nI_add, m_has, c_has, hI_0, bI_0, if_pos]
theorem FL_up {σ : Mm} {P : Pg} {k : Nat} {f : Nat → Int32} (h : FL σ P) (hk : k ≠ 88) : FL (upm σ k f) P := fun b hb' i hi => by
  rw [upm_n (fun e => hk e.symm)]; exact h b hb' i hi
theorem plan_run {σ τ : Mm} {P : Pg} {H : Nat → Int32} {k : Nat} {T : Nat → Nat → Int32} {lim : Nat} (ho : OKp P H k T) (hsq : SQ σ P H k T) (hm : MP τ 124 1 P) (hH : ∀ v, v < 12 → τ 139 v = H v) (hC : ∀ v, v < 12 → τ 140 v = cv (sA H 0) (RV P) v) (hS : ∀ v, v < 12 → τ 141 v = cv (sA H 1) (RV P) v) (hT : ∀ v l, v < 12 → l < 8 → τ 142 (8 * v + l) = T v l) (h40 : τ 123 40 = 1) (hl : lim ≤ 1000) : (∃ σ1 τ1, fX3_execute_r σ (nI lim) = some (0, σ1) ∧ fX10_executes τ (nI lim) = some (0, τ1) ∧ Fq SC σ σ1 ∧ FrE τ τ1) ∨ (∃ σ1 τ1, fX3_execute_r σ (nI lim) = some (1, σ1) ∧ fX10_executes τ (nI lim) = some (1, τ1) ∧ Fq SC σ σ1 ∧ FrE τ τ1 ∧ σ1 107 7 = τ1 123 41 ∧ σ1 107 3 = τ1 150 0 ∧ σ1 107 4 = τ1 150 1 ∧ σ1 107 5 = τ1 150 2 ∧ σ1 107 6 = τ1 150 3 ∧ ∀ x, x < 8 → ∃ n, n ≤ 1000 ∧ σ1 108 x = nI n ∧ τ1 152 x = nI n) := by
  have hw := ho.1
  have hn0 := hw.1.1
  have hn := hw.1.2
  obtain ⟨τ4, eM, fM, iM, z150, z152, mL, lP⟩ := m_start (lim := nI lim) hw hm
  have hm4 : MP τ4 124 1 P := MP_fq fM (by simp) (iM 1 (by omega)) hm
  have hsm : SM τ4 P H T := by
    refine ⟨hm4, mL, lP, fun v hv => ?_, fun v hv => ?_, fun v hv => ?_, fun v l hv hl => ?_, ?_⟩
    · rw [fM 139 (by simp)]; exact hH v hv
    · rw [fM 140 (by simp)]; exact hC v hv
    · rw [fM 141 (by simp)]; exact hS v hv
    · rw [fM 142 (by simp)]; exact hT v l hv hl
    · rw [iM 40 (by omega)]; exact h40
  generalize h5 : upm τ4 123 (upd (τ4 123) 39 0) = τ5 at eM
  have F5 : FrM τ4 τ5 := h5 ▸ FrM_rf.u3 (by simp)
  -- the class
  have eC : ∃ σs, fX3_execute_r σ (nI lim) = ((qX6_prepare_30 (LV P 0) FU (σs, 0)).bind fun s => (fX3_moveTo_r s (-1) 0).bind fun σ3 => bns (qX3_execute_r_21 (nI lim) FU (upm σ3 107 (upd (σ3 107) 3 1), 0)) (fun u => some u) (fun σ5 => some (0, σ5))) ∧ Fq SC σ σs ∧ σs 107 4 = 0 ∧ σs 107 5 = 0 ∧ σs 107 6 = 0 ∧ ∀ x, x < 8 → σs 108 x = 0 := by
    have hF := hsq.1.2.1.1
    unfold fX3_execute_r fX3_reset_r
    rw [c_fill (by omega)]
    simp only [obs, bd]
    unfold fX6_prepare
    rw [c_fill (by omega)]
    simp only [obs]
    rw [c_fill (by omega)]
    simp only [obs]
    rw [c_lab0 hw (by
      refine FL_up (FL_up (FL_up (FL_up (FL_up (FL_up hF ?_) ?_) ?_) ?_) ?_) ?_ <;> omega)]
    simp only [obs]
    generalize hσs : upm (upm (upm (upm (upm (upm σ 108 _) 107 _) 107 _) 107 _) 109 _) 110 _ = σs
    refine ⟨σs, ?_, ?_, ?_, ?_, ?_, fun x hx => ?_⟩
    · cases qX6_prepare_30 (LV P 0) FU (σs, 0) <;> rfl
    · rw [← hσs]
      exact (((((Fq_rf.up (by simp [SC])).up (by simp [SC])).up (by simp [SC])).up (by simp [SC])).up (by simp [SC])).up (by simp [SC])
    · rw [← hσs]; simp (disch := omega) only [upm_s, upm_n, upd_a, ne_eq, if_neg, if_true]
    · rw [← hσs]; simp (disch := omega) only [upm_s, upm_n, upd_a, ne_eq, if_neg, if_true]
    · rw [← hσs]; simp (disch := omega) only [upm_s, upm_n, upd_a, ne_eq, if_neg, if_true]
    · rw [← hσs]; simp (disch := omega) only [upm_s, upm_n, upd_a, ne_eq]
      rw [if_pos hx]
  obtain ⟨σs, eC, fs, s4, s5, s6, sx⟩ := eC
  obtain ⟨σ1, τ6, p1, p2, j1, j2, j3, j4, j5, j6, j7, j8⟩ := q_prep ho hsq hsm fs F5
  have y150 : ∀ i, i < 4 → τ6 150 i = 0 := fun i hi => by rw [j5, ← h5, upm_n (by omega)]; exact z150 i hi
  obtain ⟨σ2, τ7, e1, e2, r1, r2, r3, r4, r5, r6, r7, r8, r9, r10, r11⟩ := q_enter (f := 8) (to := 0) ho hsq hsm (by omega) (by omega) j1 j2 ⟨by rw [j3, s4, y150 1 (by omega)], by rw [j3, s5, y150 2 (by omega)], by rw [j3, s6, y150 3 (by omega)]⟩ (fun l hl a1 _ => LB_0 hw (by have := LH_lt hl; omega) a1) (fun v hv hl => ⟨(j8 v hv hl).1, fun hH => ⟨fun l c a1 _ _ a4 => (by
    rw [show hb (BD P l) 8 = false from LB_lo hw (LH_lt a1) 8 (by omega)] at a4
    exact absurd a4 (by decide)), fun _ => (j8 v hv hl).2 hH⟩⟩)
  rw [show wI 8 = -1 from rfl, show nI 0 = 0 from rfl] at e1 e2
  have e40' : ¬ τ6 123 40 = 0 := by rw [(SM_fr j2 hsm).2.2.2.2.2.2.2]; decide
  have eE : fX10_enters τ5 = some τ7 := by
    unfold fX10_enters
    rw [p2]
    simp only [obs]
    rw [if_neg e40', e2]
    rfl
  have z39 : τ7 123 39 = nI 0 := by rw [r10, j7, ← h5, upm_s, upd_a, if_pos rfl]; rfl
  have e7 : upm τ7 123 (upd (τ7 123) 39 (nI 0)) = τ7 := by
    rw [← z39]
    have : upd (τ7 123) 39 (τ7 123 39) = τ7 123 := by
      funext i
      rw [upd_a]
      split
      · next q => rw [q]
      · rfl
    rw [this, upm_id]
  generalize hσ4 : upm (upm (upm σ2 107 (upd (σ2 107) 2 0)) 108 (upd (σ2 108) 0 (σ2 108 0 + 1))) 107 (upd (upd (σ2 107) 2 0) 3 1) = σ4
  have eC2 : fX3_execute_r σ (nI lim) = bns (qX3_execute_r_21 (nI lim) FU (σ4, 0)) (fun u => some u) (fun σ5 => some (0, σ5)) := by
    rw [eC, p1]
    simp only [obs]
    unfold fX3_moveTo_r
    rw [e1]
    simp (disch := omega) only [obs, bd, gN0, upm_n, upm_s, ne_eq]
    rw [show Int32.toNatClampNeg 0 = 0 from rfl, hσ4]
  have hR : RelQ σ τ4 P H T 0 0 σ4 (rst τ7) := by
    have := q_rel (σ' := σ4) (to := 0) (by omega) r1 r2 r3 r4 r5 (RE_0 hw (by omega)) r11 (fun j a1 a2 => by rw [← hσ4, upm_n a1, upm_n a2, upm_n a1]) (by rw [← hσ4, upm_s, upd_a, if_neg (by omega), upd_a, if_pos rfl]; rfl) (fun i a1 a2 => by rw [← hσ4, upm_s, upd_a, if_neg a2, upd_a, if_neg a1])
    rw [e7] at this
    exact this
  have hE : ∀ τ', FrM τ4 τ' → FrE τ τ' := fun τ' q => ⟨(fM.wk (by simp)).tr q.1 (by simp), fun i a b c d => (q.2 i b c d).trans (iM i a)⟩
  have key := exec_sk (gC := gX3_execute_r_21 (nI lim)) (pc := 107) (pe := 108) (lim := lim) (P := P) (Rel := RelQ σ τ4 P H T) (FC := Fq SC σ) (FM := FrM τ4) hw hl (fun b i σc σm h => ⟨FrM_MP h.2.1 hm4, h.2.2.2.1, h.1, h.2.1⟩) RelQ_cl (fun rec s i h => if_pos h) (q_1 ho hsq hsm) (q_2 ho hsq hsm) (q_3 ho hsq hsm) (by omega) lim 0 0 σ4 τ7 (by omega) (by omega) hR z39 (FrM_MP r2 hm4) (by rw [← hσ4, upm_s, upd_a, if_pos rfl]; rfl) (by rw [r9]; exact y150 0 (by omega)) (fun x hx => ⟨0, Nat.le_refl _, by rw [r8, j6, ← h5, upm_n (by omega)]; exact z152 x hx, by
    rw [← hσ4, upm_n (by omega), upm_s, upd_a, r7, j4]
    by_cases c : x = 0
    · rw [if_pos c, if_pos c, sx 0 (by omega)]; rfl
    · rw [if_neg c, if_neg c, sx x hx]; rfl⟩) FU FU (by unfold FU; omega) (by unfold FU; omega)
  rcases key with ⟨σ5, τ8, q1, q2, q3, q4⟩ | ⟨σ5, τ8, q1, q2, q3, q4, q5⟩
  · refine Or.inl ⟨σ5, τ8, ?_, ?_, q3, hE _ q4⟩
    · rw [eC2, show qX3_execute_r_21 (nI lim) FU (σ4, 0) = some (.inr σ5) from q1]
      rfl
    · rw [eM, eE]
      simp only [obs]
      rw [show qX10_executes_58 (nI lim) FU τ7 = some (.inl (0, τ8)) from q2]
      rfl
  · refine Or.inr ⟨σ5, τ8, ?_, ?_, q3, hE _ q4, q5⟩
    · rw [eC2, show qX3_execute_r_21 (nI lim) FU (σ4, 0) = some (.inl (1, σ5)) from q1]
      rfl
    · rw [eM, eE]
      simp only [obs]
      rw [show qX10_executes_58 (nI lim) FU τ7 = some (.inl (1, τ8)) from q2]
      rfl
