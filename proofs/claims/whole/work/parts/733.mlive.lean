/-! the model's liveness -/
theorem fu {n : Nat} (h : n < 2000) : n < FU := h
theorem orB0 (x : Int32) : x ||| 0 = x := hb_ext (fun i _ => by rw [hb_or, hb_0]; simp)
theorem m_liveBehind {σ : Mm} {P : Pg} (hw : WP P) (hm : MP σ 124 1 P) {b : Nat} (hb' : b < 8) : fX10_liveBehind σ (nI b) = some (orF (fun t => if gt P b t then σ 135 t else 0) (P_n P)) := by
  have hn := hw.1.2
  have m1 := hm.1
  have e : qX10_liveBehind_4 σ (nI b) FU (0, 0) = some (orF (fun t => if gt P b t then σ 135 t else 0) (P_n P)) := by
    refine lp_for (fun k => (orF (fun t => if gt P b t then σ 135 t else 0) k, nI k)) (P_n P) ?_ ?_ (fu (by omega))
    · intro k hk rec
      show gX10_liveBehind_4 σ (nI b) rec (orF _ k) (nI k) = rec (orF _ k ||| _, nI (k + 1))
      unfold gX10_liveBehind_4
      simp (disch := omega) only [Option.bind_some, bd, jn, bn2, un2, bn3, un3, bns, nI_1, nI_clamp, gN, gN0, gN1, gN2, gN3, nI_leI, nI_ltI, nI_eq, li_le, li_lt, le_li, lt_li, eq_li, li_eq, li_mul, mul_li, add_li, nI_add, m_has, c_has, hI_0, bI_0, m1, m_goesTo hw hm hb', if_neg]
      cases hg : gt P b k
      · simp [orB0]
      · simp
    · intro rec
      show gX10_liveBehind_4 σ (nI b) rec (orF _ (P_n P)) (nI (P_n P)) = _
      unfold gX10_liveBehind_4
      simp (disch := omega) only [Option.bind_some, bd, jn, bn2, un2, bn3, un3, bns, nI_1, nI_clamp, gN, gN0, gN1, gN2, gN3, nI_leI, nI_ltI, nI_eq, li_le, li_lt, le_li, lt_li, eq_li, li_eq, li_mul, mul_li, add_li, nI_add, m_has, c_has, hI_0, bI_0, m1, if_pos]
  unfold fX10_liveBehind
  rw [e]
  rfl
