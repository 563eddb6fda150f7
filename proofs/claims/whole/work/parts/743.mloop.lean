theorem MP_fq {S : List Nat} {σ σ' : Mm} {P : Pg} (h : Fq S σ σ') (hs : ∀ j, j ∈ S → j < 124 ∨ 134 < j) (h1 : σ' 123 1 = σ 123 1) (hm : MP σ 124 1 P) : MP σ' 124 1 P := MP_cg h1 (fun k h1 h2 => h k (fun q => by have := hs k q; omega)) hm
theorem m_back {σ : Mm} {P : Pg} (hw : WP P) (hm : MP σ 124 1 P) {h : Nat} (hh : h < 8) : qX10_layLoops_44 σ (RE P 8) (nI h) (RE P h) FU (0, 0) = some (RT P h) := by
  have hn := hw.1.2
  have m1 := hm.1
  have e : RT P h = orF (fun u => if hb (RE P 8) u = true ∧ hb (RE P h) u = false ∧ gt P u h = true then b1 u else 0) (P_n P) := by
    apply hb_ext
    intro i _
    apply Bool.eq_iff_iff.mpr
    rw [hb_RT hw hh, hb_orF, anyF_iff]
    constructor
    · intro q
      have l : i < P_n P := by
        rcases Nat.lt_or_ge i (P_n P) with c | c
        · exact c
        · have q1 := q.1
          rw [RE_lo hw i c] at q1; cases q1
      refine ⟨i, l, ?_⟩
      rw [if_pos q, hb_b1 (by omega)]
      simp
    · rintro ⟨k, h1, h2⟩
      split at h2
      · next c =>
        rw [hb_b1 (by omega)] at h2
        have : k = i := by simpa using h2
        subst this
        exact c
      · rw [hb_0] at h2; cases h2
  rw [e]
  refine lp_fr (fun k => (orF (fun u => if hb (RE P 8) u = true ∧ hb (RE P h) u = false ∧ gt P u h = true then b1 u else 0) k, nI k)) (P_n P) rfl ?_ ?_ (fu (by omega))
  · intro k hk rec
    show gX10_layLoops_44 σ (RE P 8) (nI h) (RE P h) rec (orF _ k) (nI k) = rec (orF _ k ||| _, nI (k + 1))
    unfold gX10_layLoops_44
    simp (disch := omega) only [obs, bd, jn, bn2, un2, bn3, un3, bns, nI_1, nI_clamp, gN, gN0, gN1, gN2, gN3, nI_leI, nI_ltI, nI_eq, li_le, li_lt, le_li, lt_li, eq_li, li_eq, li_mul, mul_li, add_li, nI_add, m_has, c_has, hI_0, bI_0, m1, m_goesTo hw hm, if_neg]
    cases hb (RE P 8) k
    · simp [orB0]
    · cases hb (RE P h) k
      · cases gt P k h
        · simp [orB0]
        · simp [b1]
      · simp [orB0]
  · intro rec
    show gX10_layLoops_44 σ (RE P 8) (nI h) (RE P h) rec _ (nI (P_n P)) = _
    unfold gX10_layLoops_44
    simp (disch := omega) only [obs, bd, jn, bn2, un2, bn3, un3, bns, nI_1, nI_clamp, gN, gN0, gN1, gN2, gN3, nI_leI, nI_ltI, nI_eq, li_le, li_lt, le_li, lt_li, eq_li, li_eq, li_mul, mul_li, add_li, nI_add, m_has, c_has, hI_0, bI_0, m1, if_pos]
theorem m_bodyW {σ : Mm} {P : Pg} (hw : WP P) (hm : MP σ 124 1 P) {h : Nat} (hh : h < 8) (s : Int32) : qX10_layLoops_115 σ (RE P 8) (nI h) FU (s, 0) = some (itr (fun _ => bmp P h) s (P_n P)) := by
  have hn := hw.1.2
  have m1 := hm.1
  have e0 : ∀ x y s, y < 8 → qX10_layLoops_139 σ (RE P 8) (nI h) x (nI y) FU (s, 0) = some (bmx P h y s) := by
    intro x y s hy
    refine lp_itr (bm P h y) (P_n P) some ?_ ?_ (fu (by omega))
    · intro k hk s rec
      show gX10_layLoops_139 σ (RE P 8) (nI h) x (nI y) rec s (nI k) = rec (bm P h y k s, nI (k + 1))
      unfold gX10_layLoops_139 bm
      simp (disch := omega) only [obs, bd, jn, bn2, un2, bn3, un3, bns, nI_1, nI_clamp, gN, gN0, gN1, gN2, gN3, nI_leI, nI_ltI, nI_eq, li_le, li_lt, le_li, lt_li, eq_li, li_eq, li_mul, mul_li, add_li, nI_add, m_has, c_has, hI_0, bI_0, m1, m_goesTo hw hm, if_neg]
      cases hb (RE P 8) y
      · simp
      · by_cases c : k = h
        · simp [c]
        · cases hb s k
          · simp [c]
          · cases gt P y k
            · simp [c]
            · simp [c, b1]
    · intro s rec
      show gX10_layLoops_139 σ (RE P 8) (nI h) x (nI y) rec s (nI (P_n P)) = _
      unfold gX10_layLoops_139
      simp (disch := omega) only [obs, bd, jn, bn2, un2, bn3, un3, bns, nI_1, nI_clamp, gN, gN0, gN1, gN2, gN3, nI_leI, nI_ltI, nI_eq, li_le, li_lt, le_li, lt_li, eq_li, li_eq, li_mul, mul_li, add_li, nI_add, m_has, c_has, hI_0, bI_0, m1, if_pos]
  have e1 : ∀ x s, qX10_layLoops_127 σ (RE P 8) (nI h) x FU (s, 0) = some (bmp P h s) := by
    intro x s
    refine lp_itr (bmx P h) (P_n P) some ?_ ?_ (fu (by omega))
    · intro k hk s rec
      show gX10_layLoops_127 σ (RE P 8) (nI h) x rec s (nI k) = rec (bmx P h k s, nI (k + 1))
      unfold gX10_layLoops_127
      simp (disch := omega) only [obs, bd, jn, bn2, un2, bn3, un3, bns, nI_1, nI_clamp, gN, gN0, gN1, gN2, gN3, nI_leI, nI_ltI, nI_eq, li_le, li_lt, le_li, lt_li, eq_li, li_eq, li_mul, mul_li, add_li, nI_add, m_has, c_has, hI_0, bI_0, m1, e0, if_neg]
    · intro s rec
      show gX10_layLoops_127 σ (RE P 8) (nI h) x rec s (nI (P_n P)) = _
      unfold gX10_layLoops_127
      simp (disch := omega) only [obs, bd, jn, bn2, un2, bn3, un3, bns, nI_1, nI_clamp, gN, gN0, gN1, gN2, gN3, nI_leI, nI_ltI, nI_eq, li_le, li_lt, le_li, lt_li, eq_li, li_eq, li_mul, mul_li, add_li, nI_add, m_has, c_has, hI_0, bI_0, m1, if_pos]
  refine lp_itr (fun _ => bmp P h) (P_n P) some ?_ ?_ (fu (by omega))
  · intro k hk s rec
    show gX10_layLoops_115 σ (RE P 8) (nI h) rec s (nI k) = rec (bmp P h s, nI (k + 1))
    unfold gX10_layLoops_115
    simp (disch := omega) only [obs, bd, jn, bn2, un2, bn3, un3, bns, nI_1, nI_clamp, gN, gN0, gN1, gN2, gN3, nI_leI, nI_ltI, nI_eq, li_le, li_lt, le_li, lt_li, eq_li, li_eq, li_mul, mul_li, add_li, nI_add, m_has, c_has, hI_0, bI_0, m1, e1, if_neg]
  · intro s rec
    show gX10_layLoops_115 σ (RE P 8) (nI h) rec s (nI (P_n P)) = _
    unfold gX10_layLoops_115
    simp (disch := omega) only [obs, bd, jn, bn2, un2, bn3, un3, bns, nI_1, nI_clamp, gN, gN0, gN1, gN2, gN3, nI_leI, nI_ltI, nI_eq, li_le, li_lt, le_li, lt_li, eq_li, li_eq, li_mul, mul_li, add_li, nI_add, m_has, c_has, hI_0, bI_0, m1, if_pos]
theorem m_loops {σ : Mm} {P : Pg} (hw : WP P) (hm : MP σ 124 1 P) : ∃ σ', fX10_layLoops σ = some σ' ∧ Fq [123, 137, 138] σ σ' ∧ (∀ i, i ≠ 17 → σ' 123 i = σ 123 i) ∧ LPs σ' 123 137 138 17 P := by
  have hn := hw.1.2
  have key : ∃ σ', qX10_layLoops_13 (RE P 8) FU (upm σ 123 (upd (σ 123) 17 0), 0) = some σ' ∧ (Fq [123, 137, 138] σ σ' ∧ (∀ i, i ≠ 17 → σ' 123 i = σ 123 i) ∧ LPs σ' 123 137 138 17 P) := by
    refine lp_inv2 (fun k s => Fq [123, 137, 138] σ s ∧ (∀ i, i ≠ 17 → s 123 i = σ 123 i) ∧ s 123 17 = nI (cnt (isH P) k) ∧ ∀ l, l < cnt (isH P) k → s 137 l = nI (LH P l) ∧ s 138 l = LB P (LH P l)) (P_n P) _ ?_ ?_ ?_ (fu (by omega))
    · rintro k s hk ⟨f1, f2, f3, f4⟩
      have hm1 : MP s 124 1 P := MP_fq f1 (by simp) (f2 1 (by omega)) hm
      have m1 := hm1.1
      have e1 := m_reach hw hm1 (h := k) (by omega)
      rw [show wI k = nI k from if_pos (by omega)] at e1
      have e2 := m_back hw hm1 (h := k) (by omega)
      have lc : cnt (isH P) k ≤ k := cnt_le
      have e0 : ∀ rec, gX10_layLoops_13 (RE P 8) rec s (nI k) = if isH P k = false then rec (s, nI (k + 1)) else rec (upm (upm (upm s 137 (upd (s 137) (cnt (isH P) k) (nI k))) 138 (upd (s 138) (cnt (isH P) k) (LB P k))) 123 (upd (s 123) 17 (nI (cnt (isH P) k + 1))), nI (k + 1)) := by
        intro rec
        unfold gX10_layLoops_13
        simp (disch := omega) only [obs, bd, jn, bn2, un2, bn3, un3, bns, nI_1, nI_clamp, gN, gN0, gN1, gN2, gN3, nI_leI, nI_ltI, nI_eq, li_le, li_lt, le_li, lt_li, eq_li, li_eq, li_mul, mul_li, add_li, nI_add, m_has, c_has, hI_0, bI_0, m1, if_neg]
        cases c0 : hb (RE P 8) k
        · have hi : isH P k = false := by
            cases q : isH P k
            · rfl
            · rw [isH_re hw (by omega) q] at c0; cases c0
          rw [if_pos rfl, if_pos hi]
        · rw [if_neg (by decide), e1]
          simp only [obs]
          rw [e2]
          simp only [obs]
          by_cases c : RT P k = 0
          · rw [if_pos c, if_pos (show isH P k = false from decide_eq_false (fun q => q c))]
          · rw [if_neg c, if_neg (by rw [show isH P k = true from decide_eq_true c]; decide), f3]
            have e3 := m_bodyW hw hm1 (h := k) (by omega) (RT P k ||| b1 k)
            rw [m_body hw hk] at e3
            rw [show RT P k ||| (1 : Int32) <<< (nI k &&& 31) = RT P k ||| b1 k from rfl, e3]
            simp (disch := omega) only [obs, bd, jn, bn2, un2, bn3, un3, bns, nI_1, nI_clamp, gN, gN0, gN1, gN2, gN3, nI_leI, nI_ltI, nI_eq, li_le, li_lt, le_li, lt_li, eq_li, li_eq, li_mul, mul_li, add_li, nI_add, m_has, c_has, hI_0, bI_0, upm_n, ne_eq, f3, not_false_eq_true, Nat.reduceEqDiff]
      by_cases c : isH P k = false
      · refine ⟨s, fun rec => (e0 rec).trans (if_pos c), f1, f2, ?_, ?_⟩
        · simp only [cnt, c]; exact f3
        · simp only [cnt, c]; exact f4
      · have hi : isH P k = true := by simpa using c
        have hLH : LH P (cnt (isH P) k) = k := nth_at hk hi
        have ec : cnt (isH P) (k + 1) = cnt (isH P) k + 1 := by simp only [cnt, hi, if_true]
        refine ⟨_, fun rec => (e0 rec).trans (if_neg c), ?_, ?_, ?_, ?_⟩
        · exact ((f1.up (by simp)).up (by simp)).up (by simp)
        · intro i h3
          rw [upm_s, upd_a, if_neg h3]
          exact f2 i h3
        · rw [upm_s, upd_a, if_pos rfl, ec]
        · intro l hl
          rw [ec] at hl
          rw [upm_n (by omega), upm_n (by omega), upm_s, upm_n (by omega), upm_s, upd_a, upd_a]
          by_cases c2 : l = cnt (isH P) k
          · rw [if_pos c2, if_pos c2, c2, hLH]; exact ⟨rfl, rfl⟩
          · rw [if_neg c2, if_neg c2]; exact f4 l (by omega)
    · rintro s ⟨f1, f2, f3, f4⟩
      have m1 := (MP_fq f1 (by simp) (f2 1 (by omega)) hm).1
      refine ⟨s, fun rec => ?_, f1, f2, f3, f4⟩
      show gX10_layLoops_13 (RE P 8) rec s (nI (P_n P)) = _
      unfold gX10_layLoops_13
      simp (disch := omega) only [obs, bd, jn, bn2, un2, bn3, un3, bns, nI_1, nI_clamp, gN, gN0, gN1, gN2, gN3, nI_leI, nI_ltI, nI_eq, li_le, li_lt, le_li, lt_li, eq_li, li_eq, li_mul, mul_li, add_li, nI_add, m_has, c_has, hI_0, bI_0, m1, if_pos]
    · refine ⟨Fq_rf.up (by simp), ?_, ?_, ?_⟩
      · intro i h3
        rw [upm_s, upd_a, if_neg h3]
      · rw [upm_s, upd_a, if_pos rfl]; rfl
      · intro l hl; simp [cnt] at hl
  obtain ⟨σ', h1, h2⟩ := key
  refine ⟨σ', ?_, h2⟩
  unfold fX10_layLoops
  simp only [bd]
  have hm1 : MP (upm σ 123 (upd (σ 123) 17 0)) 124 1 P := MP_fq (Fq_rf.up (S := [123]) (by simp)) (by simp) (by rw [upm_s, upd_a, if_neg (by omega)]) hm
  have e1 := m_reach hw hm1 (h := 8) (by omega)
  rw [show wI 8 = -1 from rfl] at e1
  rw [e1]
  simp only [obs]
  rw [h1]
  rfl
