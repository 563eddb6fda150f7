/-- as a step that the kernel need not compute -/
theorem obs {α β : Type} {a : α} {f : α → Option β} : (some a).bind f = f a := Eq.trans rfl rfl
theorem mk_1 {s1 : Mm} : qX10_layConflicts_6 FU (s1, 0) = some (upm s1 136 (z12 (s1 136))) := by
  refine lp_fr (fun k => (upm s1 136 (fun x => if x < k then 0 else s1 136 x), nI k)) 12 (by simp [upm_id]; rfl) ?_ ?_ (fu (by omega))
  · intro k hk rec
    show gX10_layConflicts_6 rec (upm s1 136 (fun x => if x < k then 0 else s1 136 x)) (nI k) = rec (upm s1 136 (fun x => if x < k + 1 then 0 else s1 136 x), nI (k + 1))
    unfold gX10_layConflicts_6
    simp (disch := omega) only [obs, bd, jn, bn2, un2, bn3, un3, bns, nI_1, nI_clamp, gN, gN0, gN1, gN2, gN3, nI_leI, nI_ltI, nI_eq, li_le, li_lt, le_li, lt_li, eq_li, li_eq, li_mul, mul_li, add_li, nI_add, m_has, c_has, hI_0, bI_0, if_neg, upm_s, upm_u]
    congr 3
    funext x
    rw [upd_a]
    by_cases h1 : x = k
    · rw [if_pos h1, if_pos (by omega)]
    · rw [if_neg h1]
      by_cases h2 : x < k
      · rw [if_pos h2, if_pos (by omega)]
      · rw [if_neg h2, if_neg (by omega)]
  · intro rec
    show gX10_layConflicts_6 rec (upm s1 136 (fun x => if x < 12 then 0 else s1 136 x)) (nI 12) = _
    unfold gX10_layConflicts_6
    simp (disch := omega) only [obs, bd, jn, bn2, un2, bn3, un3, bns, nI_1, nI_clamp, gN, gN0, gN1, gN2, gN3, nI_leI, nI_ltI, nI_eq, li_le, li_lt, le_li, lt_li, eq_li, li_eq, li_mul, mul_li, add_li, nI_add, m_has, c_has, hI_0, bI_0, if_pos]
    rfl
theorem mk_2 {s1 : Mm} {P : Pg} (hw : WP P) (hm1 : MP s1 124 1 P) (hL : ∀ t, t < P_n P → s1 135 t = LV P t) (R : Nat → Int32) (b : Nat) (hb' : b < P_n P) : qX10_layConflicts_37 (nI b) FU (upm s1 136 R, 0) = some (upm s1 136 (rv1 P R b (P_m P b))) := by
  have hn := hw.1.2
  have h8 := hw.2.1 b (by omega)
  refine lp_fr (fun i => (upm s1 136 (rv1 P R b i), nI i)) (P_m P b) rfl ?_ ?_ (fu (by omega))
  · intro i hi rec
    show gX10_layConflicts_37 (nI b) rec (upm s1 136 (rv1 P R b i)) (nI i) = rec (upm s1 136 (cf (rv1 P R b i) (P_t P b i) (lv P (LV P) b (i + 1))), nI (i + 1))
    have hm2 : MP (upm s1 136 (rv1 P R b i)) 124 1 P := hm1.up (by omega)
    have m3 := hm2.2.2.1
    have m10 := hm2.2.2.2.2.2.2.2.2.2.1
    have l9 := hw.2.2.2.2.2.2.2.2.1 b (by omega) i hi
    have e0 := m_liveOf hw hm2 (b := b) (i := i + 1) (by omega) (by omega)
    rw [upm_n (by omega), lv_cg hL] at e0
    unfold gX10_layConflicts_37
    simp (disch := omega) only [obs, bd, jn, bn2, un2, bn3, un3, bns, nI_1, nI_clamp, gN, gN0, gN1, gN2, gN3, nI_leI, nI_ltI, nI_eq, li_le, li_lt, le_li, lt_li, eq_li, li_eq, li_mul, mul_li, add_li, nI_add, m_has, c_has, hI_0, bI_0, m3, m10, e0, m_conflict, if_neg, upm_s, upm_u]
  · intro rec
    show gX10_layConflicts_37 (nI b) rec (upm s1 136 (rv1 P R b (P_m P b))) (nI (P_m P b)) = _
    have m3 := (hm1.up (k := 136) (f := rv1 P R b (P_m P b)) (by omega)).2.2.1
    unfold gX10_layConflicts_37
    simp (disch := omega) only [obs, bd, jn, bn2, un2, bn3, un3, bns, nI_1, nI_clamp, gN, gN0, gN1, gN2, gN3, nI_leI, nI_ltI, nI_eq, li_le, li_lt, le_li, lt_li, eq_li, li_eq, li_mul, mul_li, add_li, nI_add, m_has, c_has, hI_0, bI_0, m3, if_pos]
theorem mk_3 {s1 : Mm} {P : Pg} (hw : WP P) (hm1 : MP s1 124 1 P) (hL : ∀ t, t < P_n P → s1 135 t = LV P t) (R : Nat → Int32) : qX10_layConflicts_27 FU (upm s1 136 R, 0) = some (upm s1 136 (rv2 P R (P_n P))) := by
  have hn := hw.1.2
  refine lp_fr (fun b => (upm s1 136 (rv2 P R b), nI b)) (P_n P) rfl ?_ ?_ (fu (by omega))
  · intro b hb' rec
    show gX10_layConflicts_27 rec (upm s1 136 (rv2 P R b)) (nI b) = rec (upm s1 136 (rv1 P (rv2 P R b) b (P_m P b)), nI (b + 1))
    have m1 := (hm1.up (k := 136) (f := rv2 P R b) (by omega)).1
    unfold gX10_layConflicts_27
    simp (disch := omega) only [obs, bd, jn, bn2, un2, bn3, un3, bns, nI_1, nI_clamp, gN, gN0, gN1, gN2, gN3, nI_leI, nI_ltI, nI_eq, li_le, li_lt, le_li, lt_li, eq_li, li_eq, li_mul, mul_li, add_li, nI_add, m_has, c_has, hI_0, bI_0, m1, mk_2 hw hm1 hL, if_neg]
  · intro rec
    show gX10_layConflicts_27 rec (upm s1 136 (rv2 P R (P_n P))) (nI (P_n P)) = _
    have m1 := (hm1.up (k := 136) (f := rv2 P R (P_n P)) (by omega)).1
    unfold gX10_layConflicts_27
    simp (disch := omega) only [obs, bd, jn, bn2, un2, bn3, un3, bns, nI_1, nI_clamp, gN, gN0, gN1, gN2, gN3, nI_leI, nI_ltI, nI_eq, li_le, li_lt, le_li, lt_li, eq_li, li_eq, li_mul, mul_li, add_li, nI_add, m_has, c_has, hI_0, bI_0, m1, if_pos]
theorem mk_4 {s1 : Mm} {P : Pg} (hw : WP P) (hm1 : MP s1 124 1 P) (hL : ∀ t, t < P_n P → s1 135 t = LV P t) (g : Nat → Nat → Int32) (hg : ∀ v, g (v + 1) = if hb (LV P 0) v = true then cf (g v) v (LV P 0) else g v) : qX10_layConflicts_84 FU (upm s1 136 (g 0), 0) = some (upm s1 136 (g 12)) := by
  have hn0 := hw.1.1
  refine lp_fr (fun v => (upm s1 136 (g v), nI v)) 12 rfl ?_ ?_ (fu (by omega))
  · intro v hv rec
    show gX10_layConflicts_84 rec (upm s1 136 (g v)) (nI v) = rec (upm s1 136 (g (v + 1)), nI (v + 1))
    rw [hg]
    have eL : upm s1 136 (g v) 135 (Int32.toNatClampNeg 0) = LV P 0 := by
      rw [upm_n (by omega)]
      exact hL 0 hn0
    unfold gX10_layConflicts_84
    simp (disch := omega) only [obs, bd, jn, bn2, un2, bn3, un3, bns, nI_1, nI_clamp, gN, gN0, gN1, gN2, gN3, nI_leI, nI_ltI, nI_eq, li_le, li_lt, le_li, lt_li, eq_li, li_eq, li_mul, mul_li, add_li, nI_add, m_has, c_has, hI_0, bI_0, eL, m_conflict, if_neg, upm_s, upm_u]
    cases hb (LV P 0) v <;> simp
  · intro rec
    show gX10_layConflicts_84 rec (upm s1 136 (g 12)) (nI 12) = _
    unfold gX10_layConflicts_84
    simp (disch := omega) only [obs, bd, jn, bn2, un2, bn3, un3, bns, nI_1, nI_clamp, gN, gN0, gN1, gN2, gN3, nI_leI, nI_ltI, nI_eq, li_le, li_lt, le_li, lt_li, eq_li, li_eq, li_mul, mul_li, add_li, nI_add, m_has, c_has, hI_0, bI_0, if_pos]
theorem m_layConflicts {σ : Mm} {P : Pg} (hw : WP P) (hm : MP σ 124 1 P) : fX10_layConflicts σ = some (upm (upm σ 135 (mLV P (σ 135))) 136 (rv3 P (z12 (σ 136)) 12)) := by
  have h136 : upm σ 135 (mLV P (σ 135)) 136 = σ 136 := upm_n (by omega)
  have hL : ∀ t, t < P_n P → upm σ 135 (mLV P (σ 135)) 135 t = LV P t := fun t ht => by rw [upm_s]; exact if_pos ht
  have hm1 : MP (upm σ 135 (mLV P (σ 135))) 124 1 P := hm.up (by omega)
  unfold fX10_layConflicts
  rw [m_layLive hw hm]
  simp only [obs]
  generalize upm σ 135 (mLV P (σ 135)) = s1 at h136 hL hm1 ⊢
  rw [mk_1]
  simp only [obs]
  rw [mk_3 hw hm1 hL]
  simp only [obs]
  rw [← rv3_0, mk_4 hw hm1 hL (rv3 P (z12 (s1 136))) (fun v => rv3_s), h136]
  simp only [obs]
