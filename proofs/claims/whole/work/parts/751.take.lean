/-! putting out, both sides -/
def oI (m : Nat) : Int32 := if m = 12 then -1 else nI m
theorem m_pick {σ : Mm} {P : Pg} {x : Int32} {H : Nat → Int32} {f : Nat} (hw : WP P) (hm : MA σ P) (hH : ∀ v, v < 12 → σ 139 v = H v) (hf : f < 12) : qX10_putsOut_26 σ x (nI f) FU (-1, 0) = some (oI (am (cnd H (RV P) f) (cO P x) 12)) := by
  refine lp_fr (fun k => (oI (am (cnd H (RV P) f) (cO P x) k), nI k)) 12 rfl ?_ ?_ (fu (by omega))
  · intro k hk rec
    show gX10_putsOut_26 σ x (nI f) rec (oI (am (cnd H (RV P) f) (cO P x) k)) (nI k) = rec (oI (am (cnd H (RV P) f) (cO P x) (k + 1)), nI (k + 1))
    have hR := hm.2.2 f hf
    have hK1 := @bO P hw x k
    have e0 : cnd H (RV P) f k = true → (if oI (am (cnd H (RV P) f) (cO P x) k) < 0 then rec (nI k, nI (k + 1)) else (fX10_costOut σ (nI k) x).bind fun r5 => (fX10_costOut σ (oI (am (cnd H (RV P) f) (cO P x) k)) x).bind fun r6 => if r6 ≤ r5 then rec (oI (am (cnd H (RV P) f) (cO P x) k), nI (k + 1)) else rec (nI k, nI (k + 1))) = rec (oI (am (cnd H (RV P) f) (cO P x) (k + 1)), nI (k + 1)) := by
      intro hc
      simp only [am]
      rw [if_pos hc]
      rcases am_sp (C := cnd H (RV P) f) (K := cO P x) k (by omega) with ⟨h1, -⟩ | ⟨h1, -⟩
      · rw [if_pos h1, h1]
        have : oI k = nI k := if_neg (by omega)
        rw [this, if_pos (by decide)]
      · have hne : ¬ am (cnd H (RV P) f) (cO P x) k = 12 := by omega
        rw [if_neg hne]
        have e1 : oI (am (cnd H (RV P) f) (cO P x) k) = nI (am (cnd H (RV P) f) (cO P x) k) := if_neg (by omega)
        have hK2 := @bO P hw x (am (cnd H (RV P) f) (cO P x) k)
        rw [e1, if_neg (nI_ge0 (by omega)), m_out hw hm hk, m_out hw hm (by omega)]
        simp (disch := omega) only [obs, bd, jn, bn2, un2, bn3, un3, bns, nI_1, nI_clamp, gN, gN0, gN1, gN2, gN3, nI_leI, nI_ltI, nI_eq, li_le, li_lt, le_li, lt_li, eq_li, li_eq, li_mul, mul_li, add_li, nI_add, m_has, c_has, hI_0, bI_0]
        by_cases q : cO P x k < cO P x (am (cnd H (RV P) f) (cO P x) k)
        · rw [if_pos q, if_neg (by omega)]
          have : oI k = nI k := if_neg (by omega)
          rw [this]
        · rw [if_neg q, if_pos (by omega), e1]
    have e1 : cnd H (RV P) f k = false → rec (oI (am (cnd H (RV P) f) (cO P x) k), nI (k + 1)) = rec (oI (am (cnd H (RV P) f) (cO P x) (k + 1)), nI (k + 1)) := by
      intro hc
      simp only [am]
      rw [if_neg (by rw [hc]; decide)]
    generalize hM : oI (am (cnd H (RV P) f) (cO P x) k) = M at e0 e1 ⊢
    unfold gX10_putsOut_26
    simp (disch := omega) only [obs, bd, jn, bn2, un2, bn3, un3, bns, nI_1, nI_clamp, gN, gN0, gN1, gN2, gN3, nI_leI, nI_ltI, nI_eq, li_le, li_lt, le_li, lt_li, eq_li, li_eq, li_mul, mul_li, add_li, nI_add, m_has, c_has, hI_0, bI_0, if_neg, hH k hk, hR]
    by_cases q0 : H k = 0
    · rw [if_pos q0]
      by_cases q1 : k = f
      · rw [if_pos q1]
        exact e0 (by subst q1; simp [cnd, q0])
      · rw [if_neg q1]
        cases q2 : hb (RV P f) k
        · rw [if_pos rfl]
          exact e1 (by simp [cnd, q1, q2])
        · rw [if_neg (by decide)]
          exact e0 (by simp [cnd, q0, q2])
    · rw [if_neg q0]
      exact e1 (by simp [cnd, q0])
  · intro rec
    show gX10_putsOut_26 σ x (nI f) rec _ (nI 12) = _
    unfold gX10_putsOut_26
    simp (disch := omega) only [obs, bd, jn, bn2, un2, bn3, un3, bns, nI_1, nI_clamp, gN, gN0, gN1, gN2, gN3, nI_leI, nI_ltI, nI_eq, li_le, li_lt, le_li, lt_li, eq_li, li_eq, li_mul, mul_li, add_li, nI_add, m_has, c_has, hI_0, bI_0, if_pos]
theorem m_putsOut {σ : Mm} {P : Pg} {x : Int32} {k : Nat} {H : Nat → Int32} (hw : WP P) (hm : MA σ P) (hk : k < 2 ^ 31) (h20 : σ 123 20 = nI k) (hH : ∀ v, v < 12 → σ 139 v = H v) (hC : ∀ v, v < 12 → σ 140 v = cv (sA H 0) (RV P) v) (ho : k < mxc (sA H 0) (RV P) 12) : fX10_putsOut σ x = some (upm σ 139 (upd (σ 139) (ou P x k H) (if rcB P x (ou P x k H) = true then 2 else 1))) := by
  obtain ⟨o1, o2⟩ := ou_sp (x := x) ho
  have e1 : oI (ou P x k H) = nI (ou P x k H) := if_neg (by omega)
  unfold fX10_putsOut
  rw [m_over hk h20 hC ho]
  simp only [obs]
  rw [m_pick hw hm hH (fo_sp ho).1.1]
  simp only [obs]
  rw [show am (cnd H (RV P) (fo (sA H 0) (RV P) k)) (cO P x) 12 = ou P x k H from rfl, e1, m_cRow hw hm.1 hm.2.1 o1]
  simp (disch := omega) only [obs, bd, jn, bn2, un2, bn3, un3, bns, nI_1, nI_clamp, gN, gN0, gN1, gN2, gN3, nI_leI, nI_ltI, nI_eq, li_le, li_lt, le_li, lt_li, eq_li, li_eq, li_mul, mul_li, add_li, nI_add, m_has, c_has, hI_0, bI_0]
  unfold rcB
  by_cases c : x = 0
  · simp [c]
  · cases cR P (ou P x k H) <;> simp [c]
theorem c_takeOut {σ : Mm} {P : Pg} {x : Int32} {k : Nat} {H : Nat → Int32} (hw : WP P) (hc : CP σ 1 4 P) (ha : AN σ P) (hk : k < 2 ^ 31) (h9 : σ 97 9 = nI k) (hx : σ 97 12 = x) (hH : ∀ v, v < 12 → σ 98 v = H v) (hC : ∀ v, v < 12 → σ 99 v = cv (sA H 0) (RV P) v) (ho : k < mxc (sA H 0) (RV P) 12) : fX5_takeOutOne σ = some (upm σ 98 (upd (σ 98) (ou P x k H) (if rcB P x (ou P x k H) = true then 2 else 1))) := by
  obtain ⟨o1, o2⟩ := ou_sp (x := x) ho
  obtain ⟨⟨f1, f2, f3⟩, -⟩ := fo_sp ho
  have hR := ha.2.2.1 _ f1
  have ecd : ∀ v, v < 12 → hb ((b1 (fo (sA H 0) (RV P) k) ||| RV P (fo (sA H 0) (RV P) k)) &&& vA H 0) v = cnd H (RV P) (fo (sA H 0) (RV P) k) v := by
    intro v hv
    rw [hb_and, hb_or, hb_b1 (by omega), hb_vA, decide_eq_true hv]
    unfold cnd
    rw [Bool.true_and, Bool.and_comm]
    have : decide (fo (sA H 0) (RV P) k = v) = decide (v = fo (sA H 0) (RV P) k) := by simp [eq_comm]
    rw [this]
  have hcf : cnd H (RV P) (fo (sA H 0) (RV P) k) (fo (sA H 0) (RV P) k) = true := by
    unfold cnd
    rw [show decide (H (fo (sA H 0) (RV P) k) = 0) = true from f2]
    simp
  have e1 : ∃ r, qX5_takeOutOne_37 σ ((b1 (fo (sA H 0) (RV P) k) ||| RV P (fo (sA H 0) (RV P) k)) &&& vA H 0) FU (nI (fo (sA H 0) (RV P) k), nI (cO P x (fo (sA H 0) (RV P) k)), 0) = some r ∧ r = nI (ou P x k H) := by
    refine lp_inv3 (fun j a b => ∃ m, a = nI m ∧ b = nI (cO P x m) ∧ m < 12 ∧ cnd H (RV P) (fo (sA H 0) (RV P) k) m = true ∧ ∀ u, u < j → cnd H (RV P) (fo (sA H 0) (RV P) k) u = true → cO P x m < cO P x u ∨ (cO P x m = cO P x u ∧ m ≤ u)) 12 _ ?_ ?_ ⟨_, rfl, rfl, f1, hcf, fun u hu => by omega⟩ (fu (by omega))
    · rintro j a b hj ⟨m, rfl, rfl, h1, h2, h3⟩
      have hK1 := @bO P hw x j
      have hK2 := @bO P hw x m
      have hcj := ecd j hj
      have e0 : ∀ rec, gX5_takeOutOne_37 σ ((b1 (fo (sA H 0) (RV P) k) ||| RV P (fo (sA H 0) (RV P) k)) &&& vA H 0) rec (nI m) (nI (cO P x m)) (nI j) = if cnd H (RV P) (fo (sA H 0) (RV P) k) j = false then rec (nI m, nI (cO P x m), nI (j + 1)) else if cO P x j < cO P x m then rec (nI j, nI (cO P x j), nI (j + 1)) else if cO P x j = cO P x m then (if m ≤ j then rec (nI m, nI (cO P x m), nI (j + 1)) else rec (nI j, nI (cO P x j), nI (j + 1))) else rec (nI m, nI (cO P x m), nI (j + 1)) := by
        intro rec
        unfold gX5_takeOutOne_37
        simp (disch := omega) only [obs, bd, jn, bn2, un2, bn3, un3, bns, nI_1, nI_clamp, gN, gN0, gN1, gN2, gN3, nI_leI, nI_ltI, nI_eq, li_le, li_lt, le_li, lt_li, eq_li, li_eq, li_mul, mul_li, add_li, nI_add, m_has, c_has, hI_0, bI_0, if_neg, hcj, c_outside hw hc ha hx]
      by_cases q0 : cnd H (RV P) (fo (sA H 0) (RV P) k) j = false
      · refine ⟨_, _, fun rec => (e0 rec).trans (if_pos q0), m, rfl, rfl, h1, h2, fun u hu q => ?_⟩
        rcases Nat.lt_or_ge u j with r | r
        · exact h3 u r q
        · have : u = j := by omega
          subst this; rw [q0] at q; cases q
      · by_cases q1 : cO P x j < cO P x m
        · refine ⟨_, _, fun rec => (e0 rec).trans ((if_neg q0).trans (if_pos q1)), j, rfl, rfl, hj, by simpa using q0, fun u hu q => ?_⟩
          rcases Nat.lt_or_ge u j with r | r
          · have := h3 u r q
            left; omega
          · have : u = j := by omega
            subst this; exact Or.inr ⟨rfl, Nat.le_refl _⟩
        · by_cases q2 : cO P x j = cO P x m
          · by_cases q3 : m ≤ j
            · refine ⟨_, _, fun rec => (e0 rec).trans ((if_neg q0).trans ((if_neg q1).trans ((if_pos q2).trans (if_pos q3)))), m, rfl, rfl, h1, h2, fun u hu q => ?_⟩
              rcases Nat.lt_or_ge u j with r | r
              · exact h3 u r q
              · have : u = j := by omega
                subst this; exact Or.inr ⟨q2.symm, q3⟩
            · refine ⟨_, _, fun rec => (e0 rec).trans ((if_neg q0).trans ((if_neg q1).trans ((if_pos q2).trans (if_neg q3)))), j, rfl, rfl, hj, by simpa using q0, fun u hu q => ?_⟩
              rcases Nat.lt_or_ge u j with r | r
              · have := h3 u r q
                left; omega
              · have : u = j := by omega
                subst this; exact Or.inr ⟨rfl, Nat.le_refl _⟩
          · refine ⟨_, _, fun rec => (e0 rec).trans ((if_neg q0).trans ((if_neg q1).trans (if_neg q2))), m, rfl, rfl, h1, h2, fun u hu q => ?_⟩
            rcases Nat.lt_or_ge u j with r | r
            · exact h3 u r q
            · have : u = j := by omega
              subst this; left; omega
    · rintro a b ⟨m, rfl, rfl, h1, h2, h3⟩
      refine ⟨nI m, fun rec => ?_, ?_⟩
      · show gX5_takeOutOne_37 σ _ rec (nI m) (nI (cO P x m)) (nI 12) = _
        unfold gX5_takeOutOne_37
        simp (disch := omega) only [obs, bd, jn, bn2, un2, bn3, un3, bns, nI_1, nI_clamp, gN, gN0, gN1, gN2, gN3, nI_leI, nI_ltI, nI_eq, li_le, li_lt, le_li, lt_li, eq_li, li_eq, li_mul, mul_li, add_li, nI_add, m_has, c_has, hI_0, bI_0, if_pos]
      · unfold ou
        rw [am_uq h1 h2 h3]
  obtain ⟨r, e2, rfl⟩ := e1
  unfold fX5_takeOutOne
  rw [c_over hk h9 hC ho, c_varsAt hH]
  simp (disch := omega) only [obs, bd, jn, bn2, un2, bn3, un3, bns, nI_1, nI_clamp, gN, gN0, gN1, gN2, gN3, nI_leI, nI_ltI, nI_eq, li_le, li_lt, le_li, lt_li, eq_li, li_eq, li_mul, mul_li, add_li, nI_add, m_has, c_has, hI_0, bI_0, hR]
  rw [c_outside hw hc ha hx f1]
  simp only [obs]
  rw [show (1 : Int32) <<< (nI (fo (sA H 0) (RV P) k) &&& 31) = b1 (fo (sA H 0) (RV P) k) from rfl, e2]
  simp only [obs]
  rw [c_better hw hc ha hx o1]
  simp (disch := omega) only [obs, bd, jn, bn2, un2, bn3, un3, bns, nI_1, nI_clamp, gN, gN0, gN1, gN2, gN3, nI_leI, nI_ltI, nI_eq, li_le, li_lt, le_li, lt_li, eq_li, li_eq, li_mul, mul_li, add_li, nI_add, m_has, c_has, hI_0, bI_0]
  cases rcB P x (ou P x k H) <;> simp
/-! until they are enough -/
def hz (P : Pg) (x : Int32) (k : Nat) : Nat → (Nat → Int32) → Nat → Int32
  | 0, H => H
  | f + 1, H => if mxc (sA H 0) (RV P) 12 ≤ k then H else hz P x k f (hs1 P x k H)
def HZ (P : Pg) (x : Int32) (k : Nat) : Nat → Int32 := hz P x k 12 (h0 P)
theorem cnt_dr {p q : Nat → Bool} {m : Nat} (hp : p m = true) (hq : q m = false) (h : ∀ u, u ≠ m → q u = p u) : ∀ n, m < n → cnt q n + 1 = cnt p n := by
  intro n
  induction n with
  | zero => intro h; omega
  | succ n ih =>
    intro hn
    simp only [cnt]
    rcases Nat.lt_or_ge m n with r | r
    · rw [h n (by omega), ← ih r]; omega
    · have : n = m := by omega
      subst this
      rw [hp, hq, cnt_cg (fun k hk => h k (by omega))]
      simp
theorem mxc_z {S : Nat → Bool} {R : Nat → Int32} (h : cnt S 12 = 0) : mxc S R 12 = 0 := by
  rcases Nat.eq_zero_or_pos (mxc S R 12) with e | e
  · exact e
  · obtain ⟨v, h1, h2, -⟩ := mxc_at (S := S) (R := R) 12 e
    rw [cnt_0.mp h v h1] at h2; cases h2
theorem hs1_cnt {P : Pg} {x : Int32} {k : Nat} {H : Nat → Int32} (h : k < mxc (sA H 0) (RV P) 12) : cnt (sA (hs1 P x k H) 0) 12 + 1 = cnt (sA H 0) 12 := by
  obtain ⟨o1, o2⟩ := ou_sp (x := x) h
  refine cnt_dr (m := ou P x k H) (decide_eq_true o2) ?_ ?_ 12 o1
  · unfold sA hs1
    rw [upd_a, if_pos rfl]
    split <;> decide
  · intro u hu
    unfold sA hs1
    rw [upd_a, if_neg hu]
theorem upd_rw {f g : Nat → Int32} {m : Nat} {a : Int32} (h : ∀ v, v < 12 → f v = g v) : ∀ v, v < 12 → upd f m a v = upd g m a v := fun v hv => by rw [upd_a, upd_a, h v hv]
theorem sA_hb {H : Nat → Int32} {w : Int32} : ∀ v, v < 12 → hb (vA H w) v = sA H w v := fun v hv => by rw [hb_vA, decide_eq_true hv]; rfl
theorem c_makeLoop {σ : Mm} {P : Pg} {x : Int32} {k : Nat} (hw : WP P) (hc : CP σ 1 4 P) (ha : AN σ P) (hk : k < 13) (h9 : σ 97 9 = nI k) (hx : σ 97 12 = x) (hH : ∀ v, v < 12 → σ 98 v = h0 P v) (hC : ∀ v, v < 12 → σ 99 v = cv (sA (h0 P) 0) (RV P) v) : ∃ σ', qX5_make_35 (nI k) FU (σ, 0) = some σ' ∧ (Fq [98, 99] σ σ' ∧ (∀ v, v < 12 → σ' 98 v = HZ P x k v) ∧ ∀ v, v < 12 → σ' 99 v = cv (sA (HZ P x k) 0) (RV P) v) := by
  refine lp_inv2e (fun r s => Fq [98, 99] σ s ∧ ∃ H, (∀ v, v < 12 → s 98 v = H v) ∧ (∀ v, v < 12 → s 99 v = cv (sA H 0) (RV P) v) ∧ hz P x k (12 - r) H = HZ P x k) 12 _ ?_ ?_ ⟨Fq_rf, h0 P, hH, hC, rfl⟩ (fu (by omega))
  · rintro r s hr ⟨g1, H, g2, g3, g4⟩
    have hc1 : CP s 1 4 P := CP_fq g1 (by simp) hc
    have ha1 : AN s P := AN_fq g1 (by simp) ha
    have h97 : s 97 = σ 97 := g1 97 (by simp)
    have hmx := @mxc_le (sA H 0) (RV P) 12 (Nat.le_refl _)
    have e12 : 12 - r = (12 - (r + 1)) + 1 := by omega
    rw [e12] at g4
    simp only [hz] at g4
    by_cases q : mxc (sA H 0) (RV P) 12 ≤ k
    · rw [if_pos q] at g4
      subst g4
      refine Or.inl ⟨s, fun rec => ?_, g1, g2, g3⟩
      show gX5_make_35 (nI k) rec s (nI r) = _
      unfold gX5_make_35
      simp (disch := omega) only [obs, bd, jn, bn2, un2, bn3, un3, bns, nI_1, nI_clamp, gN, gN0, gN1, gN2, gN3, nI_leI, nI_ltI, nI_eq, li_le, li_lt, le_li, lt_li, eq_li, li_eq, li_mul, mul_li, add_li, nI_add, m_has, c_has, hI_0, bI_0, if_neg, c_inUse g3, if_pos]
    · rw [if_neg q] at g4
      have e2 := c_takeOut (x := x) (k := k) hw hc1 ha1 (by omega) (by rw [h97]; exact h9) (by rw [h97]; exact hx) g2 g3 (by omega)
      generalize hs2 : upm s 98 (upd (s 98) (ou P x k H) (if rcB P x (ou P x k H) = true then 2 else 1)) = s2 at e2
      have f2 : Fq [98, 99] σ s2 := hs2 ▸ g1.up (by simp)
      have r2 : ∀ v, v < 12 → s2 98 v = hs1 P x k H v := by
        rw [← hs2, upm_s]
        exact upd_rw g2
      have ha2 : AN s2 P := AN_fq f2 (by simp) ha
      refine Or.inr ⟨upm s2 99 (fun v => if v < 12 then cv (sA (hs1 P x k H) 0) (RV P) v else s2 99 v), fun rec => ?_, f2.up (by simp), hs1 P x k H, ?_, ?_, g4⟩
      · show gX5_make_35 (nI k) rec s (nI r) = _
        unfold gX5_make_35
        simp (disch := omega) only [obs, bd, jn, bn2, un2, bn3, un3, bns, nI_1, nI_clamp, gN, gN0, gN1, gN2, gN3, nI_leI, nI_ltI, nI_eq, li_le, li_lt, le_li, lt_li, eq_li, li_eq, li_mul, mul_li, add_li, nI_add, m_has, c_has, hI_0, bI_0, if_neg, c_inUse g3, e2, c_varsAt r2, c_colour (show (99 : Nat) ≠ 91 by omega) sA_hb ha2.2.2.1]
      · intro v hv
        rw [upm_n (by omega)]; exact r2 v hv
      · intro v hv
        rw [upm_s]; exact if_pos hv
  · rintro s ⟨g1, H, g2, g3, g4⟩
    have g5 : H = HZ P x k := g4
    subst g5
    refine ⟨s, fun rec => ?_, g1, g2, g3⟩
    show gX5_make_35 (nI k) rec s (nI 12) = _
    unfold gX5_make_35
    simp (disch := omega) only [obs, bd, jn, bn2, un2, bn3, un3, bns, nI_1, nI_clamp, gN, gN0, gN1, gN2, gN3, nI_leI, nI_ltI, nI_eq, li_le, li_lt, le_li, lt_li, eq_li, li_eq, li_mul, mul_li, add_li, nI_add, m_has, c_has, hI_0, bI_0, if_pos]
theorem m_planLoop {σ : Mm} {P : Pg} {x : Int32} {k : Nat} (hw : WP P) (hm : MA σ P) (hk : k < 13) (h20 : σ 123 20 = nI k) (hH : ∀ v, v < 12 → σ 139 v = h0 P v) : ∃ σ', qX10_plan_30 (nI k) x FU σ = some σ' ∧ (Fq [139, 140] σ σ' ∧ (∀ v, v < 12 → σ' 139 v = HZ P x k v) ∧ (∀ v, v < 12 → σ' 140 v = cv (sA (HZ P x k) 0) (RV P) v) ∧ mxc (sA (HZ P x k) 0) (RV P) 12 ≤ k) := by
  refine lp_ix (fun m s => Fq [139, 140] σ s ∧ ∃ H, (∀ v, v < 12 → s 139 v = H v) ∧ hz P x k m H = HZ P x k ∧ cnt (sA H 0) 12 ≤ m) _ ?_ FU 12 σ ⟨Fq_rf, h0 P, hH, rfl, cnt_le⟩ (fu (by omega))
  rintro m s ⟨g1, H, g2, g3, g4⟩
  have hm1 : MA s P := MA_fq g1 (by simp) hm
  have hmx := @mxc_le (sA H 0) (RV P) 12 (Nat.le_refl _)
  have e1 := m_colours (σ := s) (S := sA H 0) (R := RV P) (fun v hv => by rw [g2 v hv]; exact decide_eq_true_iff.symm) hm1.2.2
  generalize hs2 : upm s 140 (fun v => if v < 12 then cv (sA H 0) (RV P) v else s 140 v) = s2 at e1
  have f2 : Fq [139, 140] σ s2 := hs2 ▸ g1.up (by simp)
  have r1 : ∀ v, v < 12 → s2 139 v = H v := fun v hv => by rw [← hs2, upm_n (by omega)]; exact g2 v hv
  have r2 : ∀ v, v < 12 → s2 140 v = cv (sA H 0) (RV P) v := fun v hv => by rw [← hs2, upm_s]; exact if_pos hv
  have e0 : ∀ rec, gX10_plan_30 (nI k) x rec s = if mxc (sA H 0) (RV P) 12 ≤ k then some s2 else (fX10_putsOut s2 x).bind fun σ3 => rec σ3 := by
    intro rec
    unfold gX10_plan_30
    rw [e1]
    simp (disch := omega) only [obs, bd, jn, bn2, un2, bn3, un3, bns, nI_1, nI_clamp, gN, gN0, gN1, gN2, gN3, nI_leI, nI_ltI, nI_eq, li_le, li_lt, le_li, lt_li, eq_li, li_eq, li_mul, mul_li, add_li, nI_add, m_has, c_has, hI_0, bI_0]
  by_cases q : mxc (sA H 0) (RV P) 12 ≤ k
  · have g5 : H = HZ P x k := by
      cases m with
      | zero => exact g3
      | succ m =>
        simp only [hz] at g3
        rw [if_pos q] at g3
        exact g3
    subst g5
    exact Or.inl ⟨s2, fun rec => (e0 rec).trans (if_pos q), f2, r1, r2, q⟩
  · cases m with
    | zero =>
      exfalso
      have := mxc_z (S := sA H 0) (R := RV P) (by omega)
      omega
    | succ m =>
      simp only [hz] at g3
      rw [if_neg q] at g3
      have hm2 : MA s2 P := MA_fq f2 (by simp) hm
      have e2 := m_putsOut (x := x) (k := k) (H := H) hw hm2 (by omega) (by rw [f2 123 (by simp)]; exact h20) r1 r2 (by omega)
      have hcn := hs1_cnt (x := x) (show k < mxc (sA H 0) (RV P) 12 by omega)
      refine Or.inr ⟨m, upm s2 139 (upd (s2 139) (ou P x k H) (if rcB P x (ou P x k H) = true then 2 else 1)), fun rec => (e0 rec).trans ((if_neg q).trans (by rw [e2]; rfl)), ⟨f2.up (by simp), hs1 P x k H, ?_, g3, by omega⟩, by omega⟩
      rw [upm_s]
      exact upd_rw r1
