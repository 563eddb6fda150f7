/-! the machine with a plan: from block to block -/
theorem lp_tw {A B R R' : Type} {sA' : (A × Int32 → Option R) → A × Int32 → Option R} {sB : (B × Int32 → Option R') → B × Int32 → Option R'} (J : Nat → A → B → Prop) (N : Nat) (Q : R → R' → Prop) (h1 : ∀ k a b, k < N → J k a b → ∃ a' b', (∀ rec, sA' rec (a, nI k) = rec (a', nI (k + 1))) ∧ (∀ rec, sB rec (b, nI k) = rec (b', nI (k + 1))) ∧ J (k + 1) a' b') (h2 : ∀ a b, J N a b → ∃ r r', (∀ rec, sA' rec (a, nI N) = some r) ∧ (∀ rec, sB rec (b, nI N) = some r') ∧ Q r r') {a : A} {b : B} (h0 : J 0 a b) {n : Nat} (hn : N < n) : ∃ r r', lp sA' n (a, 0) = some r ∧ lp sB n (b, 0) = some r' ∧ Q r r' := by
  have key : ∀ j, j ≤ N → ∀ n, j < n → ∀ a b, J (N - j) a b → ∃ r r', lp sA' n (a, nI (N - j)) = some r ∧ lp sB n (b, nI (N - j)) = some r' ∧ Q r r' := by
    intro j
    induction j with
    | zero =>
      intro _ n hn a b ha
      obtain ⟨m, rfl⟩ : ∃ m, n = m + 1 := ⟨n - 1, by omega⟩
      obtain ⟨r, r', e, e', q⟩ := h2 a b ha
      exact ⟨r, r', e _, e' _, q⟩
    | succ j ih =>
      intro hj n hn a b ha
      obtain ⟨m, rfl⟩ : ∃ m, n = m + 1 := ⟨n - 1, by omega⟩
      obtain ⟨a', b', e, e', q⟩ := h1 _ a b (by omega) ha
      have e2 : N - (j + 1) + 1 = N - j := by omega
      rw [e2] at e e' q
      obtain ⟨r, r', e3, e4, q3⟩ := ih (by omega) m (by omega) a' b' q
      exact ⟨r, r', (e _).trans e3, (e' _).trans e4, q3⟩
  have := key N (Nat.le_refl _) n hn a b (by rw [Nat.sub_self]; exact h0)
  rwa [Nat.sub_self] at this
def BE (σ0 τ0 σs τs σ τ : Mm) : Prop := Fq SC σ0 σ ∧ FrM τ0 τ ∧ CTS σ τ ∧ (∀ i, i ≠ 4 → i ≠ 5 → σ 107 i = σs 107 i) ∧ σ 108 = σs 108 ∧ τ 152 = τs 152 ∧ τ 150 0 = τs 150 0 ∧ τ 123 = τs 123 ∧ (∀ c, σs 109 c = τs 147 c → σ 109 c = τ 147 c) ∧ ∀ s, σs 110 s = τs 148 s → σ 110 s = τ 148 s
theorem st_in {σ0 τ0 σs τs σ τ : Mm} {P : Pg} {H : Nat → Int32} {k : Nat} {T : Nat → Nat → Int32} (ho : OKp P H k T) (hsq : SQ σ0 P H k T) (hsm : SM τ0 P H T) {l : Nat} {x x' y z : Int32} (hl : l < LC P) (hx : ∀ v, v < 12 → hb x' v = hb x v) (hB : BE σ0 τ0 σs τs σ τ) (hLE : ∀ v c, v < 12 → hb x v = true → T v l = nI c → c < 12 → σ 109 c = τ 147 c) : ∃ σ' τ', qX6_storePromoted_25 (nI l) x FU (σ, 0) = some σ' ∧ qX10_goesInto_65 y z (nI l) x' FU (τ, 0) = some τ' ∧ (BE σ0 τ0 σs τs σ' τ' ∧ σ' 109 = σ 109 ∧ τ' 147 = τ 147 ∧ (∀ s, σ 110 s = τ 148 s → σ' 110 s = τ' 148 s) ∧ ∀ v, v < 12 → T v l ≠ -1 → hb x v = true → σ' 110 (sl' P H v) = τ' 148 (sl' P H v)) := by
  obtain ⟨hw, -, oT, oU, hk⟩ := id ho
  have h8 := LC_le hw
  refine lp_tw (sA' := fun rec s => gX6_storePromoted_25 (nI l) x rec s.1 s.2) (sB := fun rec s => gX10_goesInto_65 y z (nI l) x' rec s.1 s.2) (fun v σ1 τ1 => BE σ0 τ0 σs τs σ1 τ1 ∧ σ1 109 = σ 109 ∧ τ1 147 = τ 147 ∧ (∀ s, σ 110 s = τ 148 s → σ1 110 s = τ1 148 s) ∧ ∀ u, u < v → T u l ≠ -1 → hb x u = true → σ1 110 (sl' P H u) = τ1 148 (sl' P H u)) 12 _ ?_ ?_ ⟨hB, rfl, rfl, fun _ q => q, fun u hu => by omega⟩ (fu (by omega))
  · rintro v σ1 τ1 hv ⟨b1', g1, g2, g3, g4⟩
    obtain ⟨q1, q2, ⟨q3, q4, q5⟩, q6, q7, q8, q9, q10, q11, q12⟩ := id b1'
    have hs := SQ_fq q1 hsq
    have ht := SM_fr q2 hsm
    have e101 := hs.2.2 v l hv (by omega)
    have e142 := ht.2.2.2.2.2.2.1 v l hv (by omega)
    have eN := okT_neg oT hk hv (show l < 8 by omega)
    have hxv := hx v hv
    by_cases c : T v l = -1 ∨ hb x v = false
    · refine ⟨σ1, τ1, fun rec => ?_, fun rec => ?_, b1', g1, g2, g3, fun u hu a1 a2 => ?_⟩
      · show gX6_storePromoted_25 (nI l) x rec σ1 (nI v) = _
        unfold gX6_storePromoted_25
        simp (disch := omega) only [obs, bd, jn, bn2, un2, bn3, un3, bns, nI_1, nI_clamp, gN, gN0, gN1, gN2, gN3, nI_leI, nI_ltI, nI_eq, li_le, li_lt, le_li, lt_li, eq_li, li_eq, li_mul, mul_li, add_li, nI_add, m_has, c_has, hI_0, bI_0, if_neg, e101]
        rcases c with c | c
        · rw [if_pos c]
        · by_cases c2 : T v l = -1
          · rw [if_pos c2]
          · rw [if_neg c2, if_pos c]
      · show gX10_goesInto_65 y z (nI l) x' rec τ1 (nI v) = _
        unfold gX10_goesInto_65
        simp (disch := omega) only [obs, bd, jn, bn2, un2, bn3, un3, bns, nI_1, nI_clamp, gN, gN0, gN1, gN2, gN3, nI_leI, nI_ltI, nI_eq, li_le, li_lt, le_li, lt_li, eq_li, li_eq, li_mul, mul_li, add_li, nI_add, m_has, c_has, hI_0, bI_0, if_neg, e142, eN, hxv]
        rcases c with c | c
        · rw [if_pos c]
        · by_cases c2 : T v l = -1
          · rw [if_pos c2]
          · rw [if_neg c2, if_pos c]
      · rcases Nat.lt_or_ge u v with r | r
        · exact g4 u r a1 a2
        · have : u = v := by omega
          subst this
          rcases c with c | c
          · exact absurd c a1
          · rw [c] at a2; cases a2
    · have c1 : T v l ≠ -1 := fun q => c (Or.inl q)
      have c2 : hb x v = true := by
        cases e : hb x v
        · exact absurd (Or.inr e) c
        · rfl
      obtain ⟨cc, d1, d2⟩ : ∃ cc, cc < 12 ∧ T v l = nI cc := by
        rcases oT v l hv (by omega) with e | ⟨-, cc, e1, e2⟩
        · exact absurd e c1
        · exact ⟨cc, by omega, e2⟩
      have hH := oU.1 v l hv (by omega) c1
      have ls := sl_i (P := P) (H := H) hv
      have e100 := hs.2.1 v hv
      rw [cv1 hH] at e100
      have e141 := ht.2.2.2.2.2.1 v hv
      rw [cv1 hH] at e141
      have eq1 : σ1 109 cc = τ1 147 cc := by rw [g1, g2]; exact hLE v cc hv c2 d2 d1
      refine ⟨upm (upm σ1 110 (upd (σ1 110) (sl' P H v) (σ1 109 cc))) 107 (upd (σ1 107) 5 (σ1 107 5 + 1)), upm (upm τ1 148 (upd (τ1 148) (sl' P H v) (τ1 147 cc))) 150 (upd (τ1 150) 2 (τ1 150 2 + 1)), fun rec => ?_, fun rec => ?_, ⟨?_, ?_, ⟨?_, ?_, ?_⟩, fun i a1 a2 => ?_, ?_, ?_, ?_, ?_, fun c' a => ?_, fun s a => ?_⟩, ?_, ?_, fun s a => ?_, fun u hu a1 a2 => ?_⟩
      · show gX6_storePromoted_25 (nI l) x rec σ1 (nI v) = _
        unfold gX6_storePromoted_25
        simp (disch := omega) only [obs, bd, jn, bn2, un2, bn3, un3, bns, nI_1, nI_clamp, gN, gN0, gN1, gN2, gN3, nI_leI, nI_ltI, nI_eq, li_le, li_lt, le_li, lt_li, eq_li, li_eq, li_mul, mul_li, add_li, nI_add, m_has, c_has, hI_0, bI_0, if_neg, e101, c2]
        rw [d2, if_neg (by decide), e100]
        simp (disch := omega) only [obs, bd, jn, bn2, un2, bn3, un3, bns, nI_1, nI_clamp, gN, gN0, gN1, gN2, gN3, nI_leI, nI_ltI, nI_eq, li_le, li_lt, le_li, lt_li, eq_li, li_eq, li_mul, mul_li, add_li, nI_add, m_has, c_has, hI_0, bI_0, upm_n, ne_eq]
      · show gX10_goesInto_65 y z (nI l) x' rec τ1 (nI v) = _
        unfold gX10_goesInto_65
        simp (disch := omega) only [obs, bd, jn, bn2, un2, bn3, un3, bns, nI_1, nI_clamp, gN, gN0, gN1, gN2, gN3, nI_leI, nI_ltI, nI_eq, li_le, li_lt, le_li, lt_li, eq_li, li_eq, li_mul, mul_li, add_li, nI_add, m_has, c_has, hI_0, bI_0, if_neg, e142, eN, hxv, c2]
        rw [d2, if_neg (by decide), e141]
        simp (disch := omega) only [obs, bd, jn, bn2, un2, bn3, un3, bns, nI_1, nI_clamp, gN, gN0, gN1, gN2, gN3, nI_leI, nI_ltI, nI_eq, li_le, li_lt, le_li, lt_li, eq_li, li_eq, li_mul, mul_li, add_li, nI_add, m_has, c_has, hI_0, bI_0, upm_n, ne_eq]
        rfl
      · exact (q1.up (by simp [SC])).up (by simp [SC])
      · have F : FrM τ0 (upm τ1 148 (upd (τ1 148) (sl' P H v) (τ1 147 cc))) := q2.up (by simp)
        exact F.up (by simp)
      · simp (disch := omega) only [upm_s, upd_a, if_neg]; exact q3
      · simp (disch := omega) only [upm_s, upd_a, if_true]; rw [q4]
      · simp (disch := omega) only [upm_s, upd_a, if_neg]; exact q5
      · rw [upm_s, upd_a, if_neg a2]; exact q6 i a1 a2
      · simp (disch := omega) only [upm_n, ne_eq]; exact q7
      · simp (disch := omega) only [upm_n, ne_eq]; exact q8
      · simp (disch := omega) only [upm_s, upd_a, if_neg]; exact q9
      · simp (disch := omega) only [upm_n, ne_eq]; exact q10
      · simp (disch := omega) only [upm_n, ne_eq]; exact q11 c' a
      · simp (disch := omega) only [upm_n, ne_eq, upm_s]; rw [eq1]; exact eqw (q12 s a)
      · simp (disch := omega) only [upm_n, ne_eq]; exact g1
      · simp (disch := omega) only [upm_n, ne_eq]; exact g2
      · simp (disch := omega) only [upm_n, ne_eq, upm_s]; rw [eq1]; exact eqw (g3 s a)
      · simp (disch := omega) only [upm_n, ne_eq, upm_s]; rw [eq1]
        rcases Nat.lt_or_ge u v with r | r
        · exact eqw (g4 u r a1 a2)
        · have : u = v := by omega
          subst this; exact eqw2
  · rintro σ1 τ1 hJ
    refine ⟨σ1, τ1, fun rec => ?_, fun rec => ?_, hJ⟩
    · show gX6_storePromoted_25 (nI l) x rec σ1 (nI 12) = _
      unfold gX6_storePromoted_25
      simp (disch := omega) only [obs, bd, jn, bn2, un2, bn3, un3, bns, nI_1, nI_clamp, gN, gN0, gN1, gN2, gN3, nI_leI, nI_ltI, nI_eq, li_le, li_lt, le_li, lt_li, eq_li, li_eq, li_mul, mul_li, add_li, nI_add, m_has, c_has, hI_0, bI_0, if_pos]
    · show gX10_goesInto_65 y z (nI l) x' rec τ1 (nI 12) = _
      unfold gX10_goesInto_65
      simp (disch := omega) only [obs, bd, jn, bn2, un2, bn3, un3, bns, nI_1, nI_clamp, gN, gN0, gN1, gN2, gN3, nI_leI, nI_ltI, nI_eq, li_le, li_lt, le_li, lt_li, eq_li, li_eq, li_mul, mul_li, add_li, nI_add, m_has, c_has, hI_0, bI_0, if_pos]
theorem c_contW {σ : Mm} {P : Pg} (hw : WP P) (hl : LPs σ 94 95 96 3 P) {l f : Nat} (h : l < LC P) (hf : f ≤ 8) : fX2_contains σ (nI l) (wI f) = some (bI (hb (BD P l) f)) := by
  by_cases c : f < 8
  · rw [show wI f = nI f from if_pos c]; exact c_contains hw hl h c
  · rw [show wI f = -1 from if_neg c, c_contains1]
    have : hb (BD P l) f = false := LB_lo hw (LH_lt h) f (by have := hw.1.2; omega)
    rw [this]; rfl
theorem st_out {σ0 τ0 σs τs : Mm} {P : Pg} {H : Nat → Int32} {k : Nat} {T : Nat → Nat → Int32} (ho : OKp P H k T) (hsq : SQ σ0 P H k T) (hsm : SM τ0 P H T) {f to : Nat} (hf : f ≤ 8) (hto : to < P_n P) (hB : BE σ0 τ0 σs τs σs τs) (hLE : ∀ v l c, v < 12 → l < LC P → hb (LV P to) v = true → hb (BD P l) f = true → T v l = nI c → c < 12 → σs 109 c = τs 147 c) : ∃ σ' τ', qX6_enter_2 (wI f) (nI to) FU (σs, 0) = some σ' ∧ qX10_goesInto_2 (wI f) (nI to) FU (τs, 0) = some τ' ∧ (BE σ0 τ0 σs τs σ' τ' ∧ σ' 109 = σs 109 ∧ τ' 147 = τs 147 ∧ ∀ l, l < LC P → hb (BD P l) f = true → hb (BD P l) to = false → ∀ v, v < 12 → T v l ≠ -1 → hb (LV P to) v = true → hb (tI P (BD P l)) v = true → σ' 110 (sl' P H v) = τ' 148 (sl' P H v)) := by
  have hw := ho.1
  have hn := hw.1.2
  have h8 := LC_le hw
  refine lp_tw (sA' := fun rec s => gX6_enter_2 (wI f) (nI to) rec s.1 s.2) (sB := fun rec s => gX10_goesInto_2 (wI f) (nI to) rec s.1 s.2) (fun n σ1 τ1 => BE σ0 τ0 σs τs σ1 τ1 ∧ σ1 109 = σs 109 ∧ τ1 147 = τs 147 ∧ ∀ l, l < n → hb (BD P l) f = true → hb (BD P l) to = false → ∀ v, v < 12 → T v l ≠ -1 → hb (LV P to) v = true → hb (tI P (BD P l)) v = true → σ1 110 (sl' P H v) = τ1 148 (sl' P H v)) (LC P) _ ?_ ?_ ⟨hB, rfl, rfl, fun l hl => by omega⟩ (fu (by omega))
  · rintro l σ1 τ1 hl ⟨b1', g1, g2, g3⟩
    obtain ⟨q1, q2, -⟩ := id b1'
    have hs := SQ_fq q1 hsq
    have ht := SM_fr q2 hsm
    have l3 := hs.1.2.1.2.2.2.1
    have l3' := ht.2.2.1.1
    have e138 := (ht.2.2.1.2 l hl).2
    have eL := ht.2.1 to hto
    have e103 := (hs.1.2.2.2.2.2 l hl).2
    have eC0 : ∀ rec, gX6_enter_2 (wI f) (nI to) rec σ1 (nI l) = if hb (BD P l) f = true ∧ hb (BD P l) to = false then (qX6_storePromoted_25 (nI l) (LV P to &&& tI P (BD P l)) FU (σ1, 0)).bind (fun s => rec (s, nI (l + 1))) else rec (σ1, nI (l + 1)) := by
      intro rec
      unfold gX6_enter_2 fX6_storePromoted
      simp (disch := omega) only [obs, bd, jn, bn2, un2, bn3, un3, bns, nI_1, nI_clamp, gN, gN0, gN1, gN2, gN3, nI_leI, nI_ltI, nI_eq, li_le, li_lt, le_li, lt_li, eq_li, li_eq, li_mul, mul_li, add_li, nI_add, m_has, c_has, hI_0, bI_0, if_neg, l3, c_contW hw hs.1.2.1.2.2.2 hl hf, c_contains hw hs.1.2.1.2.2.2 hl, c_lab hw hs.1.2.1.1, e103]
      cases hb (BD P l) f
      · simp
      · cases hb (BD P l) to
        · simp only [Bool.true_eq_false, if_false, if_true, and_self]
          cases qX6_storePromoted_25 (nI l) (LV P to &&& tI P (BD P l)) FU (σ1, 0) <;> rfl
        · simp
    have eM0 : ∀ rec, gX10_goesInto_2 (wI f) (nI to) rec τ1 (nI l) = if hb (BD P l) f = true ∧ hb (BD P l) to = false then (qX10_goesInto_65 (wI f) (nI to) (nI l) (tI P (BD P l) &&& LV P to) FU (τ1, 0)).bind (fun s => rec (s, nI (l + 1))) else rec (τ1, nI (l + 1)) := by
      intro rec
      unfold gX10_goesInto_2
      by_cases c : f < 8
      · rw [show wI f = nI f from if_pos c, if_neg (show ¬ nI f < 0 from nI_ge0 (by omega))]
        simp (disch := omega) only [obs, bd, jn, bn2, un2, bn3, un3, bns, nI_1, nI_clamp, gN, gN0, gN1, gN2, gN3, nI_leI, nI_ltI, nI_eq, li_le, li_lt, le_li, lt_li, eq_li, li_eq, li_mul, mul_li, add_li, nI_add, m_has, c_has, hI_0, bI_0, if_neg, l3', e138, m_targetsIn hw ht.1, eL]
        rw [show LB P (LH P l) = BD P l from rfl]
        cases hb (BD P l) f
        · simp
        · cases hb (BD P l) to
          · simp
          · simp
      · have hf0 : hb (BD P l) f = false := LB_lo hw (LH_lt hl) f (by omega)
        rw [show wI f = -1 from if_neg c, if_pos (show (-1 : Int32) < 0 by decide), hf0]
        simp (disch := omega) only [obs, bd, jn, bn2, un2, bn3, un3, bns, nI_1, nI_clamp, gN, gN0, gN1, gN2, gN3, nI_leI, nI_ltI, nI_eq, li_le, li_lt, le_li, lt_li, eq_li, li_eq, li_mul, mul_li, add_li, nI_add, m_has, c_has, hI_0, bI_0, if_neg, l3']
        simp
    by_cases c : hb (BD P l) f = true ∧ hb (BD P l) to = false
    · obtain ⟨σ2, τ2, e1, e2, b2, r1, r2, r3, r4⟩ := st_in (x := LV P to &&& tI P (BD P l)) (x' := tI P (BD P l) &&& LV P to) (y := wI f) (z := nI to) ho hsq hsm hl (fun v hv => by rw [hb_and, hb_and, Bool.and_comm]) b1' (fun v cc hv h1 h2 h3 => by
        rw [g1, g2]
        rw [hb_and, Bool.and_eq_true] at h1
        exact hLE v l cc hv hl h1.1 c.1 h2 h3)
      refine ⟨σ2, τ2, fun rec => (eC0 rec).trans ((if_pos c).trans (by rw [e1]; rfl)), fun rec => (eM0 rec).trans ((if_pos c).trans (by rw [e2]; rfl)), b2, r1.trans g1, r2.trans g2, fun m hm a1 a2 v hv a3 a4 a5 => ?_⟩
      · rcases Nat.lt_or_ge m l with r | r
        · exact r3 _ (g3 m r a1 a2 v hv a3 a4 a5)
        · have : m = l := by omega
          subst this
          exact r4 v hv a3 (by rw [hb_and, a4, a5]; rfl)
    · refine ⟨σ1, τ1, fun rec => (eC0 rec).trans (if_neg c), fun rec => (eM0 rec).trans (if_neg c), b1', g1, g2, fun m hm a1 a2 v hv a3 a4 a5 => ?_⟩
      rcases Nat.lt_or_ge m l with r | r
      · exact g3 m r a1 a2 v hv a3 a4 a5
      · have : m = l := by omega
        subst this
        exact absurd ⟨a1, a2⟩ c
  · rintro σ1 τ1 ⟨b1', hJ⟩
    have l3 := (SQ_fq b1'.1 hsq).1.2.1.2.2.2.1
    have l3' := (SM_fr b1'.2.1 hsm).2.2.1.1
    refine ⟨σ1, τ1, fun rec => ?_, fun rec => ?_, b1', hJ⟩
    · show gX6_enter_2 (wI f) (nI to) rec σ1 (nI (LC P)) = _
      unfold gX6_enter_2
      simp (disch := omega) only [obs, bd, jn, bn2, un2, bn3, un3, bns, nI_1, nI_clamp, gN, gN0, gN1, gN2, gN3, nI_leI, nI_ltI, nI_eq, li_le, li_lt, le_li, lt_li, eq_li, li_eq, li_mul, mul_li, add_li, nI_add, m_has, c_has, hI_0, bI_0, l3, if_pos]
    · show gX10_goesInto_2 (wI f) (nI to) rec τ1 (nI (LC P)) = _
      unfold gX10_goesInto_2
      simp (disch := omega) only [obs, bd, jn, bn2, un2, bn3, un3, bns, nI_1, nI_clamp, gN, gN0, gN1, gN2, gN3, nI_leI, nI_ltI, nI_eq, li_le, li_lt, le_li, lt_li, eq_li, li_eq, li_mul, mul_li, add_li, nI_add, m_has, c_has, hI_0, bI_0, l3', if_pos]
