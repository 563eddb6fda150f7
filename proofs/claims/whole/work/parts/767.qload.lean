/-! loading, and the whole step from block to block -/
theorem ld_in {σ0 τ0 σs τs σ τ : Mm} {P : Pg} {H : Nat → Int32} {k : Nat} {T : Nat → Nat → Int32} (ho : OKp P H k T) (hsq : SQ σ0 P H k T) (hsm : SM τ0 P H T) {l to : Nat} {y : Int32} (hl : l < LC P) (hto : to < P_n P) (hB : BE σ0 τ0 σs τs σ τ) (hM : ∀ v, v < 12 → hb (LV P to) v = true → T v l ≠ -1 → σ 110 (sl' P H v) = τ 148 (sl' P H v)) : ∃ σ' τ', qX6_loadPromoted_15 (nI l) (LV P to) FU (σ, 0) = some σ' ∧ qX10_goesInto_194 y (nI to) (nI l) FU (τ, 0) = some τ' ∧ (BE σ0 τ0 σs τs σ' τ' ∧ σ' 110 = σ 110 ∧ τ' 148 = τ 148 ∧ (∀ s, σ 109 s = τ 147 s → σ' 109 s = τ' 147 s) ∧ ∀ v c, v < 12 → T v l = nI c → c < 12 → hb (LV P to) v = true → σ' 109 c = τ' 147 c) := by
  obtain ⟨hw, -, oT, oU, hk⟩ := id ho
  have hn := hw.1.2
  have h8 := LC_le hw
  refine lp_tw (sA' := fun rec s => gX6_loadPromoted_15 (nI l) (LV P to) rec s.1 s.2) (sB := fun rec s => gX10_goesInto_194 y (nI to) (nI l) rec s.1 s.2) (fun v σ1 τ1 => BE σ0 τ0 σs τs σ1 τ1 ∧ σ1 110 = σ 110 ∧ τ1 148 = τ 148 ∧ (∀ s, σ 109 s = τ 147 s → σ1 109 s = τ1 147 s) ∧ ∀ u c, u < v → T u l = nI c → c < 12 → hb (LV P to) u = true → σ1 109 c = τ1 147 c) 12 _ ?_ ?_ ⟨hB, rfl, rfl, fun _ q => q, fun u _ hu => by omega⟩ (fu (by omega))
  · rintro v σ1 τ1 hv ⟨b1', g1, g2, g3, g4⟩
    obtain ⟨q1, q2, ⟨q3, q4, q5⟩, q6, q7, q8, q9, q10, q11, q12⟩ := id b1'
    have hs := SQ_fq q1 hsq
    have ht := SM_fr q2 hsm
    have e101 := hs.2.2 v l hv (by omega)
    have e142 := ht.2.2.2.2.2.2.1 v l hv (by omega)
    have eN := okT_neg oT hk hv (show l < 8 by omega)
    have eL := ht.2.1 to hto
    by_cases c : T v l = -1 ∨ hb (LV P to) v = false
    · refine ⟨σ1, τ1, fun rec => ?_, fun rec => ?_, b1', g1, g2, g3, fun u c' hu a1 a2 a3 => ?_⟩
      · show gX6_loadPromoted_15 (nI l) (LV P to) rec σ1 (nI v) = _
        unfold gX6_loadPromoted_15
        simp (disch := omega) only [obs, bd, jn, bn2, un2, bn3, un3, bns, nI_1, nI_clamp, gN, gN0, gN1, gN2, gN3, nI_leI, nI_ltI, nI_eq, li_le, li_lt, le_li, lt_li, eq_li, li_eq, li_mul, mul_li, add_li, nI_add, m_has, c_has, hI_0, bI_0, if_neg, e101]
        rcases c with c | c
        · rw [if_pos c]
        · by_cases c2 : T v l = -1
          · rw [if_pos c2]
          · rw [if_neg c2, if_pos c]
      · show gX10_goesInto_194 y (nI to) (nI l) rec τ1 (nI v) = _
        unfold gX10_goesInto_194
        simp (disch := omega) only [obs, bd, jn, bn2, un2, bn3, un3, bns, nI_1, nI_clamp, gN, gN0, gN1, gN2, gN3, nI_leI, nI_ltI, nI_eq, li_le, li_lt, le_li, lt_li, eq_li, li_eq, li_mul, mul_li, add_li, nI_add, m_has, c_has, hI_0, bI_0, if_neg, e142, eN, eL]
        rcases c with c | c
        · rw [if_pos c]
        · by_cases c2 : T v l = -1
          · rw [if_pos c2]
          · rw [if_neg c2, if_pos c]
      · rcases Nat.lt_or_ge u v with r | r
        · exact g4 u c' r a1 a2 a3
        · have : u = v := by omega
          subst this
          rcases c with c | c
          · rw [c] at a1; exact absurd a1.symm (nI_ne_m1 (by omega))
          · rw [c] at a3; cases a3
    · have c1 : T v l ≠ -1 := fun q => c (Or.inl q)
      have c2 : hb (LV P to) v = true := by
        cases e : hb (LV P to) v
        · exact absurd (Or.inr e) c
        · rfl
      obtain ⟨cc, d1, d2⟩ : ∃ cc, cc < 12 ∧ T v l = nI cc := by
        rcases oT v l hv (by omega) with e | ⟨-, cc, e1, e2⟩
        · exact absurd e c1
        · exact ⟨cc, by omega, e2⟩
      have hH := oU.1 v l hv (by omega) c1
      have ls := sl_i (P := P) (H := H) hv
      have e100 := hs.2.1 v hv
      rw [cv1 hH] at e100
      have e141 := ht.2.2.2.2.2.1 v hv
      rw [cv1 hH] at e141
      have eq1 : σ1 110 (sl' P H v) = τ1 148 (sl' P H v) := by rw [g1, g2]; exact hM v hv c2 c1
      refine ⟨upm (upm σ1 109 (upd (σ1 109) cc (σ1 110 (sl' P H v)))) 107 (upd (σ1 107) 4 (σ1 107 4 + 1)), upm (upm τ1 147 (upd (τ1 147) cc (τ1 148 (sl' P H v)))) 150 (upd (τ1 150) 1 (τ1 150 1 + 1)), fun rec => ?_, fun rec => ?_, ⟨?_, ?_, ⟨?_, ?_, ?_⟩, fun i a1 a2 => ?_, ?_, ?_, ?_, ?_, fun c' a => ?_, fun s a => ?_⟩, ?_, ?_, fun s a => ?_, fun u c' hu a1 a2 a3 => ?_⟩
      · show gX6_loadPromoted_15 (nI l) (LV P to) rec σ1 (nI v) = _
        unfold gX6_loadPromoted_15
        simp (disch := omega) only [obs, bd, jn, bn2, un2, bn3, un3, bns, nI_1, nI_clamp, gN, gN0, gN1, gN2, gN3, nI_leI, nI_ltI, nI_eq, li_le, li_lt, le_li, lt_li, eq_li, li_eq, li_mul, mul_li, add_li, nI_add, m_has, c_has, hI_0, bI_0, if_neg, e101, c2]
        rw [d2, if_neg (by decide), e100]
        simp (disch := omega) only [obs, bd, jn, bn2, un2, bn3, un3, bns, nI_1, nI_clamp, gN, gN0, gN1, gN2, gN3, nI_leI, nI_ltI, nI_eq, li_le, li_lt, le_li, lt_li, eq_li, li_eq, li_mul, mul_li, add_li, nI_add, m_has, c_has, hI_0, bI_0, upm_n, ne_eq]
      · show gX10_goesInto_194 y (nI to) (nI l) rec τ1 (nI v) = _
        unfold gX10_goesInto_194
        simp (disch := omega) only [obs, bd, jn, bn2, un2, bn3, un3, bns, nI_1, nI_clamp, gN, gN0, gN1, gN2, gN3, nI_leI, nI_ltI, nI_eq, li_le, li_lt, le_li, lt_li, eq_li, li_eq, li_mul, mul_li, add_li, nI_add, m_has, c_has, hI_0, bI_0, if_neg, e142, eN, eL, c2]
        rw [d2, if_neg (by decide), e141]
        simp (disch := omega) only [obs, bd, jn, bn2, un2, bn3, un3, bns, nI_1, nI_clamp, gN, gN0, gN1, gN2, gN3, nI_leI, nI_ltI, nI_eq, li_le, li_lt, le_li, lt_li, eq_li, li_eq, li_mul, mul_li, add_li, nI_add, m_has, c_has, hI_0, bI_0, upm_n, ne_eq]
        rfl
      · exact (q1.up (by simp [SC])).up (by simp [SC])
      · have F : FrM τ0 (upm τ1 147 (upd (τ1 147) cc (τ1 148 (sl' P H v)))) := q2.up (by simp)
        exact F.up (by simp)
      · simp (disch := omega) only [upm_s, upd_a, if_true]; rw [q3]
      · simp (disch := omega) only [upm_s, upd_a, if_neg]; exact q4
      · simp (disch := omega) only [upm_s, upd_a, if_neg]; exact q5
      · rw [upm_s, upd_a, if_neg a1]; exact q6 i a1 a2
      · simp (disch := omega) only [upm_n, ne_eq]; exact q7
      · simp (disch := omega) only [upm_n, ne_eq]; exact q8
      · simp (disch := omega) only [upm_s, upd_a, if_neg]; exact q9
      · simp (disch := omega) only [upm_n, ne_eq]; exact q10
      · simp (disch := omega) only [upm_n, ne_eq, upm_s]; rw [eq1]; exact eqw (q11 c' a)
      · simp (disch := omega) only [upm_n, ne_eq]; exact q12 s a
      · simp (disch := omega) only [upm_n, ne_eq]; exact g1
      · simp (disch := omega) only [upm_n, ne_eq]; exact g2
      · simp (disch := omega) only [upm_n, ne_eq, upm_s]; rw [eq1]; exact eqw (g3 s a)
      · simp (disch := omega) only [upm_n, ne_eq, upm_s]; rw [eq1]
        rcases Nat.lt_or_ge u v with r | r
        · exact eqw (g4 u c' r a1 a2 a3)
        · have : u = v := by omega
          subst this
          rw [d2] at a1
          have := (nI_eq (by omega) (by omega)).mp a1
          subst this
          exact eqw2
  · rintro σ1 τ1 hJ
    refine ⟨σ1, τ1, fun rec => ?_, fun rec => ?_, hJ⟩
    · show gX6_loadPromoted_15 (nI l) (LV P to) rec σ1 (nI 12) = _
      unfold gX6_loadPromoted_15
      simp (disch := omega) only [obs, bd, jn, bn2, un2, bn3, un3, bns, nI_1, nI_clamp, gN, gN0, gN1, gN2, gN3, nI_leI, nI_ltI, nI_eq, li_le, li_lt, le_li, lt_li, eq_li, li_eq, li_mul, mul_li, add_li, nI_add, m_has, c_has, hI_0, bI_0, if_pos]
    · show gX10_goesInto_194 y (nI to) (nI l) rec τ1 (nI 12) = _
      unfold gX10_goesInto_194
      simp (disch := omega) only [obs, bd, jn, bn2, un2, bn3, un3, bns, nI_1, nI_clamp, gN, gN0, gN1, gN2, gN3, nI_leI, nI_ltI, nI_eq, li_le, li_lt, le_li, lt_li, eq_li, li_eq, li_mul, mul_li, add_li, nI_add, m_has, c_has, hI_0, bI_0, if_pos]
theorem ld_out {σ0 τ0 σs τs : Mm} {P : Pg} {H : Nat → Int32} {k : Nat} {T : Nat → Nat → Int32} (ho : OKp P H k T) (hsq : SQ σ0 P H k T) (hsm : SM τ0 P H T) {f to : Nat} (hf : f ≤ 8) (hto : to < P_n P) (hB : BE σ0 τ0 σs τs σs τs) (hM : ∀ v l, v < 12 → l < LC P → LH P l = to → hb (BD P l) f = false → hb (LV P to) v = true → T v l ≠ -1 → σs 110 (sl' P H v) = τs 148 (sl' P H v)) : ∃ σ' τ', qX6_enter_60 (wI f) (nI to) FU (σs, 0) = some σ' ∧ qX10_goesInto_153 (wI f) (nI to) FU (τs, 0) = some τ' ∧ (BE σ0 τ0 σs τs σ' τ' ∧ σ' 110 = σs 110 ∧ τ' 148 = τs 148 ∧ ∀ l, l < LC P → LH P l = to → hb (BD P l) f = false → ∀ v c, v < 12 → T v l = nI c → c < 12 → hb (LV P to) v = true → σ' 109 c = τ' 147 c) := by
  have hw := ho.1
  have hn := hw.1.2
  have h8 := LC_le hw
  refine lp_tw (sA' := fun rec s => gX6_enter_60 (wI f) (nI to) rec s.1 s.2) (sB := fun rec s => gX10_goesInto_153 (wI f) (nI to) rec s.1 s.2) (fun n σ1 τ1 => BE σ0 τ0 σs τs σ1 τ1 ∧ σ1 110 = σs 110 ∧ τ1 148 = τs 148 ∧ ∀ l, l < n → LH P l = to → hb (BD P l) f = false → ∀ v c, v < 12 → T v l = nI c → c < 12 → hb (LV P to) v = true → σ1 109 c = τ1 147 c) (LC P) _ ?_ ?_ ⟨hB, rfl, rfl, fun l hl => by omega⟩ (fu (by omega))
  · rintro l σ1 τ1 hl ⟨b1', g1, g2, g3⟩
    obtain ⟨q1, q2, -⟩ := id b1'
    have hs := SQ_fq q1 hsq
    have ht := SM_fr q2 hsm
    have l3 := hs.1.2.1.2.2.2.1
    have l3' := ht.2.2.1.1
    have hh := LH_lt hl
    have e95 := (hs.1.2.1.2.2.2.2 l hl).1
    obtain ⟨e137, e138⟩ := ht.2.2.1.2 l hl
    have eC0 : ∀ rec, gX6_enter_60 (wI f) (nI to) rec σ1 (nI l) = if LH P l = to ∧ hb (BD P l) f = false then (qX6_loadPromoted_15 (nI l) (LV P to) FU (σ1, 0)).bind (fun s => rec (s, nI (l + 1))) else rec (σ1, nI (l + 1)) := by
      intro rec
      unfold gX6_enter_60 fX6_loadPromoted
      simp (disch := omega) only [obs, bd, jn, bn2, un2, bn3, un3, bns, nI_1, nI_clamp, gN, gN0, gN1, gN2, gN3, nI_leI, nI_ltI, nI_eq, li_le, li_lt, le_li, lt_li, eq_li, li_eq, li_mul, mul_li, add_li, nI_add, m_has, c_has, hI_0, bI_0, if_neg, l3, e95, c_contW hw hs.1.2.1.2.2.2 hl hf, c_lab hw hs.1.2.1.1]
      by_cases c : LH P l = to
      · rw [if_pos c]
        cases hb (BD P l) f
        · rw [if_pos rfl, if_pos ⟨c, rfl⟩]
          cases qX6_loadPromoted_15 (nI l) (LV P to) FU (σ1, 0) <;> rfl
        · rw [if_neg (by decide), if_neg (fun q => by cases q.2)]
      · rw [if_neg c, if_neg (fun q => c q.1)]
    have eM0 : ∀ rec, gX10_goesInto_153 (wI f) (nI to) rec τ1 (nI l) = if LH P l = to ∧ hb (BD P l) f = false then (qX10_goesInto_194 (wI f) (nI to) (nI l) FU (τ1, 0)).bind (fun s => rec (s, nI (l + 1))) else rec (τ1, nI (l + 1)) := by
      intro rec
      unfold gX10_goesInto_153
      by_cases cf : f < 8
      · rw [show wI f = nI f from if_pos cf]
        simp (disch := omega) only [obs, bd, jn, bn2, un2, bn3, un3, bns, nI_1, nI_clamp, gN, gN0, gN1, gN2, gN3, nI_leI, nI_ltI, nI_eq, li_le, li_lt, le_li, lt_li, eq_li, li_eq, li_mul, mul_li, add_li, nI_add, m_has, c_has, hI_0, bI_0, if_neg, l3', e137, e138, nI_ge0]
        rw [show LB P (LH P l) = BD P l from rfl]
        by_cases c : LH P l = to
        · rw [if_pos c]
          cases hb (BD P l) f
          · simp [c]
          · simp
        · rw [if_neg c, if_neg (fun q => c q.1)]
      · have hf0 : hb (BD P l) f = false := LB_lo hw (LH_lt hl) f (by omega)
        rw [show wI f = -1 from if_neg cf, hf0]
        simp (disch := omega) only [obs, bd, jn, bn2, un2, bn3, un3, bns, nI_1, nI_clamp, gN, gN0, gN1, gN2, gN3, nI_leI, nI_ltI, nI_eq, li_le, li_lt, le_li, lt_li, eq_li, li_eq, li_mul, mul_li, add_li, nI_add, m_has, c_has, hI_0, bI_0, if_neg, l3', e137]
        by_cases c : LH P l = to
        · rw [if_pos c, if_pos (show (-1 : Int32) < 0 by decide), if_pos ⟨c, trivial⟩]
        · rw [if_neg c, if_neg (fun q => c q.1)]
    by_cases c : LH P l = to ∧ hb (BD P l) f = false
    · obtain ⟨σ2, τ2, e1, e2, b2, r1, r2, r3, r4⟩ := ld_in (y := wI f) ho hsq hsm hl hto b1' (fun v hv h1 h2 => by
        rw [g1, g2]
        exact hM v l hv hl c.1 c.2 h1 h2)
      refine ⟨σ2, τ2, fun rec => (eC0 rec).trans ((if_pos c).trans (by rw [e1]; rfl)), fun rec => (eM0 rec).trans ((if_pos c).trans (by rw [e2]; rfl)), b2, r1.trans g1, r2.trans g2, fun m hm a1 a2 v cc hv a3 a4 a5 => ?_⟩
      rcases Nat.lt_or_ge m l with r | r
      · exact r3 _ (g3 m r a1 a2 v cc hv a3 a4 a5)
      · have : m = l := by omega
        subst this
        exact r4 v cc hv a3 a4 a5
    · refine ⟨σ1, τ1, fun rec => (eC0 rec).trans (if_neg c), fun rec => (eM0 rec).trans (if_neg c), b1', g1, g2, fun m hm a1 a2 v cc hv a3 a4 a5 => ?_⟩
      rcases Nat.lt_or_ge m l with r | r
      · exact g3 m r a1 a2 v cc hv a3 a4 a5
      · have : m = l := by omega
        subst this
        exact absurd ⟨a1, a2⟩ c
  · rintro σ1 τ1 ⟨b1', hJ⟩
    have l3 := (SQ_fq b1'.1 hsq).1.2.1.2.2.2.1
    have l3' := (SM_fr b1'.2.1 hsm).2.2.1.1
    refine ⟨σ1, τ1, fun rec => ?_, fun rec => ?_, b1', hJ⟩
    · show gX6_enter_60 (wI f) (nI to) rec σ1 (nI (LC P)) = _
      unfold gX6_enter_60
      simp (disch := omega) only [obs, bd, jn, bn2, un2, bn3, un3, bns, nI_1, nI_clamp, gN, gN0, gN1, gN2, gN3, nI_leI, nI_ltI, nI_eq, li_le, li_lt, le_li, lt_li, eq_li, li_eq, li_mul, mul_li, add_li, nI_add, m_has, c_has, hI_0, bI_0, l3, if_pos]
    · show gX10_goesInto_153 (wI f) (nI to) rec τ1 (nI (LC P)) = _
      unfold gX10_goesInto_153
      simp (disch := omega) only [obs, bd, jn, bn2, un2, bn3, un3, bns, nI_1, nI_clamp, gN, gN0, gN1, gN2, gN3, nI_leI, nI_ltI, nI_eq, li_le, li_lt, le_li, lt_li, eq_li, li_eq, li_mul, mul_li, add_li, nI_add, m_has, c_has, hI_0, bI_0, l3', if_pos]
theorem BE_rf {σ0 τ0 σ τ : Mm} (h1 : Fq SC σ0 σ) (h2 : FrM τ0 τ) (h3 : CTS σ τ) : BE σ0 τ0 σ τ σ τ := ⟨h1, h2, h3, fun _ _ _ => rfl, rfl, rfl, rfl, rfl, fun _ q => q, fun _ q => q⟩
theorem q_enter {σ0 τ0 σ τ : Mm} {P : Pg} {H : Nat → Int32} {k : Nat} {T : Nat → Nat → Int32} (ho : OKp P H k T) (hsq : SQ σ0 P H k T) (hsm : SM τ0 P H T) {f to : Nat} (hf : f ≤ 8) (hto : to < P_n P) (h1 : Fq SC σ0 σ) (h2 : FrM τ0 τ) (h3 : CTS σ τ) (hE : ∀ l, l < LC P → hb (BD P l) to = true → hb (BD P l) f = false → LH P l = to) (hLE : ∀ v, v < 12 → hb (LV P to) v = true → LE1 P H T f v σ τ) : ∃ σ' τ', fX6_enter σ (wI f) (nI to) = some σ' ∧ fX10_goesInto τ (wI f) (nI to) = some τ' ∧ Fq SC σ0 σ' ∧ FrM τ0 τ' ∧ CTS σ' τ' ∧ (∀ j, j < 2 → σ' 112 j = -1) ∧ σ' 107 13 = 1 ∧ (∀ i, i ≠ 4 → i ≠ 5 → i ≠ 13 → σ' 107 i = σ 107 i) ∧ σ' 108 = σ 108 ∧ τ' 152 = τ 152 ∧ τ' 150 0 = τ 150 0 ∧ τ' 123 = τ 123 ∧ ∀ v, v < 12 → hb (LV P to) v = true → LE1 P H T to v σ' τ' := by
  have hw := ho.1
  have hn := hw.1.2
  have oU := ho.2.2.2.1
  obtain ⟨σ1, τ1, e1, e2, b1', r1, r2, r3⟩ := st_out ho hsq hsm hf hto (BE_rf h1 h2 h3) (fun v l c hv hl a1 a2 a3 a4 => ((hLE v hv a1).2 (oU.1 v l hv (by have := LC_le hw; omega) (by rw [a3]; exact nI_ne_m1 (by omega)))).1 l c hl a3 a4 a2)
  obtain ⟨m1, m2, m3, m4, m5, m6, m7, m8, m9, m10⟩ := id b1'
  have slot : ∀ v, v < 12 → H v = 1 → hb (LV P to) v = true → (∃ l, l < LC P ∧ T v l ≠ -1 ∧ hb (BD P l) f = true ∧ hb (BD P l) to = true ∧ hb (tI P (BD P l)) v = true) ∨ σ1 110 (sl' P H v) = τ1 148 (sl' P H v) := by
    intro v hv hH hl
    by_cases c : ∃ l, l < LC P ∧ T v l ≠ -1 ∧ hb (BD P l) f = true ∧ hb (tI P (BD P l)) v = true
    · obtain ⟨l, a1, a2, a3, a4⟩ := c
      cases e : hb (BD P l) to
      · exact Or.inr (r3 l a1 a3 e v hv a2 hl a4)
      · exact Or.inl ⟨l, a1, a2, a3, e, a4⟩
    · refine Or.inr (m10 _ (((hLE v hv hl).2 hH).2 (fun l a1 a2 a3 => ?_)))
      cases e : hb (tI P (BD P l)) v
      · rfl
      · exact absurd ⟨l, a1, a2, a3, e⟩ c
  obtain ⟨σ2, τ2, e3, e4, b2, s1, s2, s3⟩ := ld_out ho hsq hsm hf hto (BE_rf m1 m2 m3) (fun v l hv hl a1 a2 a3 a4 => by
    rcases slot v hv (oU.1 v l hv (by have := LC_le hw; omega) a4) a3 with ⟨l0, d1, d2, d3, d4, d5⟩ | d
    · exfalso
      have hin : hb (BD P l) to = true := by
        unfold BD
        rw [a1]
        exact LB_h (by omega)
      have := T_one hw oU hv d1 hl d2 a4 d4 hin
      subst this
      rw [a2] at d3; cases d3
    · exact d)
  obtain ⟨n1, n2, n3, n4, n5, n6, n7, n8, n9, n10⟩ := id b2
  refine ⟨upm (upm (upm σ2 112 (upd (σ2 112) 0 (-1))) 112 (upd (upd (σ2 112) 0 (-1)) 1 (-1))) 107 (upd (σ2 107) 13 1), τ2, ?_, ?_, ((n1.up (by simp [SC])).up (by simp [SC])).up (by simp [SC]), n2, ⟨?_, ?_, ?_⟩, fun j hj => ?_, ?_, fun i a1 a2 a3 => ?_, ?_, n6.trans m6, n7.trans m7, n8.trans m8, fun v hv hl => ⟨fun hH => ?_, fun hH => ⟨fun l c a1 a2 a3 a4 => ?_, fun a => ?_⟩⟩⟩
  · unfold fX6_enter
    rw [e1]
    simp only [obs]
    rw [e3]
    simp (disch := omega) only [obs, bd, jn, bn2, un2, bn3, un3, bns, nI_1, nI_clamp, gN, gN0, gN1, gN2, gN3, nI_leI, nI_ltI, nI_eq, li_le, li_lt, le_li, lt_li, eq_li, li_eq, li_mul, mul_li, add_li, nI_add, m_has, c_has, hI_0, bI_0, gN0, gN1, upm_s, upm_n, ne_eq]
    rfl
  · unfold fX10_goesInto
    rw [e2]
    simp only [obs]
    rw [e4]
    rfl
  · rw [upm_s, upd_a, if_neg (by omega)]; exact n3.1
  · rw [upm_s, upd_a, if_neg (by omega)]; exact n3.2.1
  · rw [upm_s, upd_a, if_neg (by omega)]; exact n3.2.2
  · rw [upm_n (by omega), upm_s, upd_a, upd_a]
    by_cases c : j = 1
    · rw [if_pos c]
    · rw [if_neg c, if_pos (by omega)]
  · rw [upm_s, upd_a, if_pos rfl]
  · rw [upm_s, upd_a, if_neg a3, n4 i a1 a2, m4 i a1 a2]
  · simp (disch := omega) only [upm_n, ne_eq]; exact n5.trans m5
  · simp (disch := omega) only [upm_n, ne_eq]
    exact n9 _ (m9 _ ((hLE v hv hl).1 hH))
  · simp (disch := omega) only [upm_n, ne_eq]
    cases e : hb (BD P l) f
    · exact s3 l a1 (hE l a1 a4 e) e v c hv a2 a3 hl
    · exact n9 _ (m9 _ (((hLE v hv hl).2 hH).1 l c a1 a2 a3 e))
  · simp (disch := omega) only [upm_n, ne_eq]
    rcases slot v hv hH hl with ⟨l0, d1, d2, d3, d4, d5⟩ | d
    · rw [a l0 d1 d2 d4] at d5; cases d5
    · exact n10 _ d
