/-- the class's row of what is live -/
def FL (σ : Mm) (P : Pg) : Prop := ∀ b, b < P_n P → ∀ i, i ≤ P_m P b → σ 88 (b * 9 + i) = lv P (LV P) b i
theorem FL_0 {σ : Mm} {P : Pg} (h : FL σ P) {b : Nat} (hb' : b < P_n P) : σ 88 (b * 9) = LV P b := by
  have := h b hb' 0 (by omega)
  rw [Nat.add_zero] at this
  rw [this, ← LV_fix hb']
theorem c_lab {σ : Mm} {P : Pg} (hw : WP P) (h : FL σ P) {b : Nat} (hb' : b < P_n P) : fX1_liveAtBeginning σ (nI b) = some (LV P b) := by
  have hn := hw.1.2
  unfold fX1_liveAtBeginning
  simp (disch := omega) only [obs, bd, jn, bn2, un2, bn3, un3, bns, nI_1, nI_clamp, gN, gN0, gN1, gN2, gN3, nI_leI, nI_ltI, nI_eq, li_le, li_lt, le_li, lt_li, eq_li, li_eq, li_mul, mul_li, add_li, nI_add, m_has, c_has, hI_0, bI_0, FL_0 h hb']
theorem c_lab0 {σ : Mm} {P : Pg} (hw : WP P) (h : FL σ P) : fX1_liveAtBeginning σ 0 = some (LV P 0) := c_lab hw h hw.1.1
theorem c_findRivals {σ : Mm} {P : Pg} (hw : WP P) (hc : CP σ 1 4 P) (hf : FL σ P) : fX1_findRivals σ = some (upm σ 91 (rv3 P (z12 (σ 91)) 12)) := by
  have hn := hw.1.2
  have hn0 := hw.1.1
  have e2 : ∀ (R : Nat → Int32) (b : Nat), b < P_n P → qX1_findRivals_33 (nI b) (4 + 5 * b) FU (upm σ 91 R, 0) = some (upm σ 91 (rv1 P R b (P_m P b))) := by
    intro R b hb'
    have h8 := hw.2.1 b (by omega)
    refine lp_fr (fun i => (upm σ 91 (rv1 P R b i), nI i)) (P_m P b) rfl ?_ ?_ (fu (by omega))
    · intro i hi rec
      show gX1_findRivals_33 (nI b) (4 + 5 * b) rec (upm σ 91 (rv1 P R b i)) (nI i) = rec (upm σ 91 (cf (rv1 P R b i) (P_t P b i) (lv P (LV P) b (i + 1))), nI (i + 1))
      have hc2 : CP (upm σ 91 (rv1 P R b i)) 1 4 P := hc.up (by omega)
      have c3 := hc2.2.2.1
      have c10 := hc2.2.2.2.2.2.2.2.2.2.1
      have l9 := hw.2.2.2.2.2.2.2.2.1 b (by omega) i hi
      have e0 : upm σ 91 (rv1 P R b i) 88 (b * 9 + i + 1) = lv P (LV P) b (i + 1) := by
        rw [upm_n (by omega)]
        exact hf b hb' (i + 1) (by omega)
      unfold gX1_findRivals_33
      simp (disch := omega) only [obs, bd, jn, bn2, un2, bn3, un3, bns, nI_1, nI_clamp, gN, gN0, gN1, gN2, gN3, nI_leI, nI_ltI, nI_eq, li_le, li_lt, le_li, lt_li, eq_li, li_eq, li_mul, mul_li, add_li, nI_add, m_has, c_has, hI_0, bI_0, c3, c10, e0, c_addRivals, if_neg, upm_s, upm_u]
    · intro rec
      show gX1_findRivals_33 (nI b) (4 + 5 * b) rec (upm σ 91 (rv1 P R b (P_m P b))) (nI (P_m P b)) = _
      have c3 := (hc.up (k := 91) (f := rv1 P R b (P_m P b)) (by omega)).2.2.1
      unfold gX1_findRivals_33
      simp (disch := omega) only [obs, bd, jn, bn2, un2, bn3, un3, bns, nI_1, nI_clamp, gN, gN0, gN1, gN2, gN3, nI_leI, nI_ltI, nI_eq, li_le, li_lt, le_li, lt_li, eq_li, li_eq, li_mul, mul_li, add_li, nI_add, m_has, c_has, hI_0, bI_0, c3, if_pos]
  have e3 : ∀ (R : Nat → Int32), qX1_findRivals_10 FU (upm σ 91 R, 0) = some (upm σ 91 (rv2 P R (P_n P))) := by
    intro R
    refine lp_fr (fun b => (upm σ 91 (rv2 P R b), nI b)) (P_n P) rfl ?_ ?_ (fu (by omega))
    · intro b hb' rec
      show gX1_findRivals_10 rec (upm σ 91 (rv2 P R b)) (nI b) = rec (upm σ 91 (rv1 P (rv2 P R b) b (P_m P b)), nI (b + 1))
      have c1 := (hc.up (k := 91) (f := rv2 P R b) (by omega)).1
      unfold gX1_findRivals_10
      simp (disch := omega) only [obs, bd, jn, bn2, un2, bn3, un3, bns, nI_1, nI_clamp, gN, gN0, gN1, gN2, gN3, nI_leI, nI_ltI, nI_eq, li_le, li_lt, le_li, lt_li, eq_li, li_eq, li_mul, mul_li, add_li, nI_add, m_has, c_has, hI_0, bI_0, c1, e2, if_neg]
    · intro rec
      show gX1_findRivals_10 rec (upm σ 91 (rv2 P R (P_n P))) (nI (P_n P)) = _
      have c1 := (hc.up (k := 91) (f := rv2 P R (P_n P)) (by omega)).1
      unfold gX1_findRivals_10
      simp (disch := omega) only [obs, bd, jn, bn2, un2, bn3, un3, bns, nI_1, nI_clamp, gN, gN0, gN1, gN2, gN3, nI_leI, nI_ltI, nI_eq, li_le, li_lt, le_li, lt_li, eq_li, li_eq, li_mul, mul_li, add_li, nI_add, m_has, c_has, hI_0, bI_0, c1, if_pos]
  have e4 : ∀ (g : Nat → Nat → Int32), (∀ v, g (v + 1) = if hb (LV P 0) v = true then cf (g v) v (LV P 0) else g v) → qX1_findRivals_84 (LV P 0) FU (upm σ 91 (g 0), 0) = some (upm σ 91 (g 12)) := by
    intro g hg
    refine lp_fr (fun v => (upm σ 91 (g v), nI v)) 12 rfl ?_ ?_ (fu (by omega))
    · intro v hv rec
      show gX1_findRivals_84 (LV P 0) rec (upm σ 91 (g v)) (nI v) = rec (upm σ 91 (g (v + 1)), nI (v + 1))
      rw [hg]
      unfold gX1_findRivals_84
      simp (disch := omega) only [obs, bd, jn, bn2, un2, bn3, un3, bns, nI_1, nI_clamp, gN, gN0, gN1, gN2, gN3, nI_leI, nI_ltI, nI_eq, li_le, li_lt, le_li, lt_li, eq_li, li_eq, li_mul, mul_li, add_li, nI_add, m_has, c_has, hI_0, bI_0, c_addRivals, if_neg, upm_s, upm_u]
      cases hb (LV P 0) v <;> simp
    · intro rec
      show gX1_findRivals_84 (LV P 0) rec (upm σ 91 (g 12)) (nI 12) = _
      unfold gX1_findRivals_84
      simp (disch := omega) only [obs, bd, jn, bn2, un2, bn3, un3, bns, nI_1, nI_clamp, gN, gN0, gN1, gN2, gN3, nI_leI, nI_ltI, nI_eq, li_le, li_lt, le_li, lt_li, eq_li, li_eq, li_mul, mul_li, add_li, nI_add, m_has, c_has, hI_0, bI_0, if_pos]
  unfold fX1_findRivals
  rw [c_fill (by omega)]
  simp only [obs]
  rw [show (fun x => if x < 12 then (0 : Int32) else σ 91 x) = z12 (σ 91) from rfl, e3]
  simp only [obs]
  have hf2 : FL (upm σ 91 (rv2 P (z12 (σ 91)) (P_n P))) P := fun b hb' i hi => hf b hb' i hi
  rw [c_lab0 hw hf2]
  simp only [obs]
  have e5 := e4 (rv3 P (z12 (σ 91))) (fun v => rv3_s)
  rw [rv3_0] at e5
  rw [e5]
  simp only [obs]
