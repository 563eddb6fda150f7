/-! enough, the model -/
theorem m_enough {σ : Mm} {P : Pg} (hw : WP P) (hm : MP σ 124 1 P) : ∃ σ', fX10_enough σ = some (nI (max 1 (mxc (uV P) (RV P) 12)), σ') ∧ Fq [135, 136, 139, 140, 141, 143, 144, 145] σ σ' ∧ ∀ v, v < 12 → σ' 139 v = σ 139 v ∧ σ' 140 v = σ 140 v ∧ σ' 141 v = σ 141 v := by
  have k1 : ∃ s, qX10_enough_2 FU (σ, 0) = some s ∧ (Fq [143, 144, 145] σ s ∧ ∀ v, v < 12 → s 143 v = σ 139 v ∧ s 144 v = σ 140 v ∧ s 145 v = σ 141 v) := by
    refine lp_inv2 (fun k s => Fq [143, 144, 145] σ s ∧ ∀ v, v < k → s 143 v = σ 139 v ∧ s 144 v = σ 140 v ∧ s 145 v = σ 141 v) 12 _ ?_ ?_ ⟨Fq_rf, fun v hv => by omega⟩ (fu (by omega))
    · rintro k s hk ⟨g1, g2⟩
      have z1 : s 139 = σ 139 := g1 139 (by simp)
      have z2 : s 140 = σ 140 := g1 140 (by simp)
      have z3 : s 141 = σ 141 := g1 141 (by simp)
      refine ⟨upm (upm (upm s 143 (upd (s 143) k (σ 139 k))) 144 (upd (s 144) k (σ 140 k))) 145 (upd (s 145) k (σ 141 k)), fun rec => ?_, ((g1.up (by simp)).up (by simp)).up (by simp), fun v hv => ?_⟩
      · show gX10_enough_2 rec s (nI k) = _
        unfold gX10_enough_2
        simp (disch := omega) only [obs, bd, jn, bn2, un2, bn3, un3, bns, nI_1, nI_clamp, gN, gN0, gN1, gN2, gN3, nI_leI, nI_ltI, nI_eq, li_le, li_lt, le_li, lt_li, eq_li, li_eq, li_mul, mul_li, add_li, nI_add, m_has, c_has, hI_0, bI_0, if_neg, upm_n, ne_eq, z1, z2, z3]
      · rw [upm_n (by omega), upm_n (by omega), upm_s, upm_n (by omega), upm_s, upm_s, upd_a, upd_a, upd_a]
        by_cases h : v = k
        · rw [if_pos h, if_pos h, if_pos h, h]; exact ⟨rfl, rfl, rfl⟩
        · rw [if_neg h, if_neg h, if_neg h]; exact g2 v (by omega)
    · rintro s ⟨g1, g2⟩
      refine ⟨s, fun rec => ?_, g1, g2⟩
      show gX10_enough_2 rec s (nI 12) = _
      unfold gX10_enough_2
      simp (disch := omega) only [obs, bd, jn, bn2, un2, bn3, un3, bns, nI_1, nI_clamp, gN, gN0, gN1, gN2, gN3, nI_leI, nI_ltI, nI_eq, li_le, li_lt, le_li, lt_li, eq_li, li_eq, li_mul, mul_li, add_li, nI_add, m_has, c_has, hI_0, bI_0, if_pos]
  obtain ⟨s1, e1, f1, r1⟩ := k1
  obtain ⟨s2, e2, f2, a2, h2, -⟩ := m_begins (σ := s1) hw (MP_fq f1 (by simp) (by rw [f1 123 (by simp)]) hm)
  have e3 := m_colours (σ := s2) (S := sA (h0 P) 0) (R := RV P) (fun v hv => by rw [h2 v hv]; exact decide_eq_true_iff.symm) a2.2.2
  have eS : ∀ v, v < 12 → sA (h0 P) 0 v = uV P v := fun v _ => by
    unfold sA h0
    cases uV P v <;> simp
  rw [mxc_cg eS 12 (Nat.le_refl _)] at e3
  generalize hs4 : upm s2 140 (fun v => if v < 12 then cv (sA (h0 P) 0) (RV P) v else s2 140 v) = s4 at e3
  have f4 : Fq [140] s2 s4 := hs4 ▸ Fq_rf.up (by simp)
  have k5 : ∀ y, ∃ s, qX10_enough_65 y FU (s4, 0) = some s ∧ (Fq [139, 140, 141] s4 s ∧ ∀ v, v < 12 → s 139 v = s4 143 v ∧ s 140 v = s4 144 v ∧ s 141 v = s4 145 v) := by
    intro y
    refine lp_inv2 (fun k s => Fq [139, 140, 141] s4 s ∧ ∀ v, v < k → s 139 v = s4 143 v ∧ s 140 v = s4 144 v ∧ s 141 v = s4 145 v) 12 _ ?_ ?_ ⟨Fq_rf, fun v hv => by omega⟩ (fu (by omega))
    · rintro k s hk ⟨g1, g2⟩
      have z1 : s 143 = s4 143 := g1 143 (by simp)
      have z2 : s 144 = s4 144 := g1 144 (by simp)
      have z3 : s 145 = s4 145 := g1 145 (by simp)
      refine ⟨upm (upm (upm s 139 (upd (s 139) k (s4 143 k))) 140 (upd (s 140) k (s4 144 k))) 141 (upd (s 141) k (s4 145 k)), fun rec => ?_, ((g1.up (by simp)).up (by simp)).up (by simp), fun v hv => ?_⟩
      · show gX10_enough_65 y rec s (nI k) = _
        unfold gX10_enough_65
        simp (disch := omega) only [obs, bd, jn, bn2, un2, bn3, un3, bns, nI_1, nI_clamp, gN, gN0, gN1, gN2, gN3, nI_leI, nI_ltI, nI_eq, li_le, li_lt, le_li, lt_li, eq_li, li_eq, li_mul, mul_li, add_li, nI_add, m_has, c_has, hI_0, bI_0, if_neg, upm_n, ne_eq, z1, z2, z3]
      · rw [upm_n (by omega), upm_n (by omega), upm_s, upm_n (by omega), upm_s, upm_s, upd_a, upd_a, upd_a]
        by_cases h : v = k
        · rw [if_pos h, if_pos h, if_pos h, h]; exact ⟨rfl, rfl, rfl⟩
        · rw [if_neg h, if_neg h, if_neg h]; exact g2 v (by omega)
    · rintro s ⟨g1, g2⟩
      refine ⟨s, fun rec => ?_, g1, g2⟩
      show gX10_enough_65 y rec s (nI 12) = _
      unfold gX10_enough_65
      simp (disch := omega) only [obs, bd, jn, bn2, un2, bn3, un3, bns, nI_1, nI_clamp, gN, gN0, gN1, gN2, gN3, nI_leI, nI_ltI, nI_eq, li_le, li_lt, le_li, lt_li, eq_li, li_eq, li_mul, mul_li, add_li, nI_add, m_has, c_has, hI_0, bI_0, if_pos]
  obtain ⟨s6, e6, f6, r6⟩ := k5 (nI (max 1 (mxc (uV P) (RV P) 12)))
  refine ⟨s6, ?_, ?_, fun v hv => ?_⟩
  · unfold fX10_enough
    rw [e1]
    simp only [obs]
    rw [e2]
    simp only [obs]
    rw [e3]
    simp only [bn2, obs, un2, bd]
    rw [mx1 _ (mxc_le 12 (Nat.le_refl _)), e6]
    rfl
  · exact (((f1.wk (by simp)).tr f2 (by simp)).tr f4 (by simp)).tr f6 (by simp)
  · obtain ⟨q1, q2, q3⟩ := r6 v hv
    rw [q1, q2, q3, f4 143 (by simp), f4 144 (by simp), f4 145 (by simp), f2 143 (by simp), f2 144 (by simp), f2 145 (by simp)]
    exact r1 v hv
/-! natural loops: apart or within -/
theorem re_lt {P : Pg} (hw : WP P) {h x : Nat} (hx : hb (RE P h) x = true) : x < P_n P := by
  rcases Nat.lt_or_ge x (P_n P) with c | c
  · exact c
  · rw [RE_lo hw x c] at hx; cases hx
theorem LB_dom {P : Pg} (hw : WP P) {h : Nat} (hh : h < 8) : ∀ i, hb (LB P h) i = true → hb (RE P h) i = false := by
  refine LB_le hw hh (fun i => hb (RE P h) i = false) (RE_h hw) (fun u hu => ((hb_RT hw hh).mp hu).2.1) (fun x t _ hg ht hn => ?_)
  cases e : hb (RE P h) x
  · rfl
  · have := RE_cl hw e hg hn
    rw [ht] at this; cases this
theorem LB_0 {P : Pg} (hw : WP P) {h : Nat} (hh : h < 8) (h0 : hb (LB P h) 0 = true) : h = 0 := by
  apply Classical.byContradiction
  intro q
  have := LB_dom hw hh 0 h0
  rw [RE_0 hw q] at this; cases this
/-- of two that dominate a block, one dominates the other -/
theorem dom_chain {P : Pg} (hw : WP P) {h h' b : Nat} (hne : h ≠ h') (hh : h < 8) (hh' : h' < 8) (hb' : hb (RE P 8) b = true) (d1 : hb (RE P h) b = false) (d2 : hb (RE P h') b = false) : hb (RE P h) h' = false ∨ hb (RE P h') h = false := by
  cases e1 : hb (RE P h) h'
  · exact Or.inl rfl
  · cases e2 : hb (RE P h') h
    · exact Or.inr rfl
    · exfalso
      have key := RE_le hw (h := 8) (fun x => hb (RE P h) x = true ∨ hb (RE P h') x = true) (fun _ => by
        by_cases c : h = 0
        · exact Or.inr (RE_0 hw (by omega))
        · exact Or.inl (RE_0 hw c)) (fun x t _ hx hg _ => by
        rcases hx with hx | hx
        · by_cases c : t = h
          · subst c; exact Or.inr e2
          · exact Or.inl (RE_cl hw hx hg c)
        · by_cases c : t = h'
          · subst c; exact Or.inl e1
          · exact Or.inr (RE_cl hw hx hg c)) b hb'
      rcases key with k | k
      · rw [d1] at k; cases k
      · rw [d2] at k; cases k
/-- no two dominate each other -/
theorem dom_as {P : Pg} (hw : WP P) {h h' : Nat} (hne : h ≠ h') (hh : h < 8) (hh' : h' < 8) (hr : hb (RE P 8) h = true) (d1 : hb (RE P h) h' = false) (d2 : hb (RE P h') h = false) : False := by
  have n0 : h ≠ 0 := fun e => by
    subst e
    rw [RE_0 hw (Ne.symm hne)] at d2; cases d2
  have n0' : h' ≠ 0 := fun e => by
    subst e
    rw [RE_0 hw hne] at d1; cases d1
  have key := RE_le hw (h := 8) (fun x => hb (RE P h) x = true ∧ hb (RE P h') x = true) (fun _ => ⟨RE_0 hw n0, RE_0 hw n0'⟩) (fun x t _ hx hg _ => by
    have c1 : t ≠ h := fun e => by
      subst e
      have := RE_cl hw hx.2 hg hne
      rw [d2] at this; cases this
    have c2 : t ≠ h' := fun e => by
      subst e
      have := RE_cl hw hx.1 hg (Ne.symm hne)
      rw [d1] at this; cases this
    exact ⟨RE_cl hw hx.1 hg c1, RE_cl hw hx.2 hg c2⟩) h hr
  have := key.1
  rw [RE_h hw] at this; cases this
theorem nest1 {P : Pg} (hw : WP P) {h h' b : Nat} (hne : h ≠ h') (hh : h < 8) (hh' : h' < 8) (i1 : isH P h = true) (i2 : isH P h' = true) (b1' : hb (LB P h) b = true) (b2 : hb (LB P h') b = true) (d : hb (RE P h) h' = false) : ∀ i, hb (LB P h') i = true → hb (LB P h) i = true := by
  have nin : hb (LB P h') h = false := by
    cases e : hb (LB P h') h
    · rfl
    · exact (dom_as hw hne hh hh' (isH_re hw hh i1) d (LB_dom hw hh' h e)).elim
  have hin : hb (LB P h) h' = true := by
    cases e : hb (LB P h) h'
    · exfalso
      have key := RE_le hw (h := 8) (fun x => hb (RE P 8) x = true ∧ ¬ (hb (LB P h') x = true ∧ hb (LB P h) x = true)) (fun _ => ⟨RE_0 hw (by omega), fun q => by
        have c := LB_0 hw hh' q.1
        subst c
        rw [q.2] at e; cases e⟩) (fun x t _ hx hg ht8 => ⟨RE_cl hw hx.1 hg ht8, fun q => by
        have c1 : t ≠ h' := fun c => by subst c; rw [q.2] at e; cases e
        have c2 : t ≠ h := fun c => by subst c; rw [q.1] at nin; cases nin
        exact hx.2 ⟨LB_cl hw hh' hx.1 hg q.1 c1, LB_cl hw hh hx.1 hg q.2 c2⟩⟩) b (LB_re hw hh i1 b b1')
      exact key.2 ⟨b2, b1'⟩
    · rfl
  have key := LB_le hw hh' (fun i => hb (LB P h) i = true ∧ hb (LB P h') i = true) ⟨hin, LB_h hh'⟩ (fun u hu => by
    obtain ⟨u1, u2, u3⟩ := (hb_RT hw hh').mp hu
    exact ⟨LB_cl hw hh u1 u3 hin (Ne.symm hne), LB_ret hh' hu⟩) (fun x t hx hg ht hn => by
    have c2 : t ≠ h := fun c => by subst c; rw [ht.2] at nin; cases nin
    exact ⟨LB_cl hw hh hx hg ht.1 c2, LB_cl hw hh' hx hg ht.2 hn⟩)
  exact fun i hi => (key i hi).1
theorem wn_of {P : Pg} {l m : Nat} (h : ∀ i, hb (BD P l) i = true → hb (BD P m) i = true) : wn P l m = true := decide_eq_true (z_iff.mpr (fun i => by
  rcases Nat.lt_or_ge i 32 with q | q
  · rw [hb_and, hb_not q]
    cases e : hb (BD P l) i
    · rfl
    · rw [h i e]; rfl
  · exact hb_big q))
theorem nest {P : Pg} (hw : WP P) {l m b : Nat} (hl : l < LC P) (hm : m < LC P) (hne : l ≠ m) (h1 : hb (BD P l) b = true) (h2 : hb (BD P m) b = true) : wn P l m = true ∨ wn P m l = true := by
  have hn := hw.1.2
  have a1 := LH_lt hl
  have a2 := LH_lt hm
  have i1 := LH_is hl
  have i2 := LH_is hm
  have hne' : LH P l ≠ LH P m := fun e => hne (nth_inj hl hm e)
  have hr := LB_re hw (by omega) i1 b h1
  rcases dom_chain hw hne' (by omega) (by omega) hr (LB_dom hw (by omega) b h1) (LB_dom hw (by omega) b h2) with d | d
  · exact Or.inr (wn_of (nest1 hw hne' (by omega) (by omega) i1 i2 h1 h2 d))
  · exact Or.inl (wn_of (nest1 hw (Ne.symm hne') (by omega) (by omega) i2 i1 h2 h1 d))
/-- what the table keeps -/
def okU (P : Pg) (H : Nat → Int32) (T : Nat → Nat → Int32) : Prop := (∀ v l, v < 12 → l < 8 → T v l ≠ -1 → H v = 1) ∧ ∀ v l m, v < 12 → l < LC P → m < LC P → T v l ≠ -1 → T v m ≠ -1 → l ≠ m → wn P l m = false ∧ wn P m l = false
theorem elw_f {P : Pg} {T : Nat → Nat → Int32} {v l m : Nat} (h : elw P T v l = false) (hm : m < LC P) (hT : T v m ≠ -1) : wn P m l = false ∧ wn P l m = false := by
  have : ¬ (!decide (T v m = -1) && (wn P m l || wn P l m)) = true := fun q => by
    have : elw P T v l = true := anyF_iff.mpr ⟨m, hm, q⟩
    rw [h] at this; cases this
  rw [decide_eq_false hT] at this
  cases e1 : wn P m l <;> cases e2 : wn P l m <;> rw [e1, e2] at this <;> simp at this ⊢
theorem ps1_U {P : Pg} {H : Nat → Int32} {k l v : Nat} {st : PS} (hv : v < 12) (hl : l < LC P) (ho : okU P H st.1) : okU P H (ps1 P H k l v st).1 := by
  unfold ps1
  split
  · next c =>
    refine ⟨fun v' l' h1 h2 h3 => ?_, fun v' l' m' h1 h2 h3 h4 h5 h6 => ?_⟩
    · by_cases q : v' = v ∧ l' = l
      · rw [q.1]; exact c.1
      · have h3' : upT st.1 v l _ v' l' ≠ -1 := h3
        unfold upT at h3'
        rw [if_neg q] at h3'
        exact ho.1 v' l' h1 h2 h3'
    · have h4' : upT st.1 v l _ v' l' ≠ -1 := h4
      have h5' : upT st.1 v l _ v' m' ≠ -1 := h5
      unfold upT at h4' h5'
      by_cases q : v' = v ∧ l' = l
      · rw [if_neg (by omega)] at h5'
        rw [q.1] at h5'
        have := elw_f c.2.2.1 h3 h5'
        rw [q.2]
        exact ⟨this.2, this.1⟩
      · rw [if_neg q] at h4'
        by_cases q2 : v' = v ∧ m' = l
        · rw [q2.1] at h4'
          rw [q2.2]
          exact elw_f c.2.2.1 h2 h4'
        · rw [if_neg q2] at h5'
          exact ho.2 v' l' m' h1 h2 h3 h4' h5' h6
  · exact ho
theorem PT_ok {P : Pg} {H : Nat → Int32} {k : Nat} (hw : WP P) (hk : k ≤ 12) : okT P k (PT P H k).1 ∧ okU P H (PT P H k).1 ∧ nT (PT P H k).1 = (PT P H k).2.2 := by
  obtain ⟨h1, -, h3⟩ := pa_inv (H := H) hw hk (LC P) (Nat.le_refl _)
  refine ⟨h1, ?_, h3⟩
  have key : ∀ r, r ≤ LC P → okU P H (pa P H k r).2.1 := by
    intro r
    induction r with
    | zero => intro _; exact ⟨fun _ _ _ _ h => absurd rfl h, fun _ _ _ _ _ _ h => absurd rfl h⟩
    | succ r ih =>
      intro hr
      have hx := pa_nx (H := H) hw hk (show r < LC P by omega)
      exact itr_inv (f := ps1 P H k (nxs P (pa P H k r).1 (LC P))) (a := (pa P H k r).2) (n := 12) (fun _ st => okU P H st.1) (ih (by omega)) (fun v st hv h => ps1_U hv hx h) 12 (Nat.le_refl _)
  exact key _ (Nat.le_refl _)
/-- one loop at most holds it at a block -/
theorem T_one {P : Pg} {H : Nat → Int32} {T : Nat → Nat → Int32} (hw : WP P) (ho : okU P H T) {v l m b : Nat} (hv : v < 12) (hl : l < LC P) (hm : m < LC P) (h1 : T v l ≠ -1) (h2 : T v m ≠ -1) (b1' : hb (BD P l) b = true) (b2 : hb (BD P m) b = true) : l = m := by
  apply Classical.byContradiction
  intro q
  obtain ⟨w1, w2⟩ := ho.2 v l m hv hl hm h1 h2 q
  rcases nest hw hl hm q b1' b2 with r | r
  · rw [w1] at r; cases r
  · rw [w2] at r; cases r
