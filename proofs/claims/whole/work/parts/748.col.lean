/-! colours -/
def lms (x : Int32) : Nat → Nat → Nat
  | 0, c => c
  | f + 1, c => if hb x c = true then lms x f (c + 1) else c
def lm (x : Int32) : Nat := lms x 12 0
theorem lms_uq {x : Int32} {k : Nat} (h2 : hb x k = false) : ∀ f c, c ≤ k → k ≤ c + f → (∀ i, c ≤ i → i < k → hb x i = true) → lms x f c = k := by
  intro f
  induction f with
  | zero => intro c h1 h3 _; show c = k; omega
  | succ f ih =>
    intro c h1 h3 h4
    simp only [lms]
    rcases Nat.lt_or_ge c k with q | q
    · rw [if_pos (h4 c (Nat.le_refl _) q)]
      exact ih (c + 1) q (by omega) (fun i a b => h4 i (by omega) b)
    · have : c = k := by omega
      subst this
      rw [h2, if_neg (by decide)]
theorem lm_uq {x : Int32} {k : Nat} (h1 : ∀ i, i < k → hb x i = true) (h2 : hb x k = false) (h3 : k ≤ 12) : lm x = k := lms_uq h2 12 0 (Nat.zero_le _) (by omega) (fun i _ b => h1 i b)
theorem lm_ex {x : Int32} (h : lo 12 x) : ∃ k, k ≤ 12 ∧ (∀ i, i < k → hb x i = true) ∧ hb x k = false := by
  have key : ∀ j, j ≤ 12 → (∃ k, k ≤ j ∧ (∀ i, i < k → hb x i = true) ∧ hb x k = false) ∨ ∀ i, i < j → hb x i = true := by
    intro j
    induction j with
    | zero => intro _; exact Or.inr (fun i hi => by omega)
    | succ j ih =>
      intro hj
      rcases ih (by omega) with ⟨k, h1, h2⟩ | h1
      · exact Or.inl ⟨k, by omega, h2⟩
      · cases e : hb x j
        · exact Or.inl ⟨j, by omega, h1, e⟩
        · refine Or.inr (fun i hi => ?_)
          rcases Nat.lt_or_ge i j with q | q
          · exact h1 i q
          · have : i = j := by omega
            subst this; exact e
  rcases key 12 (Nat.le_refl _) with h1 | h1
  · exact h1
  · exact ⟨12, Nat.le_refl _, h1, h 12 (Nat.le_refl _)⟩
theorem lm_sp {x : Int32} (h : lo 12 x) : lm x ≤ 12 ∧ (∀ i, i < lm x → hb x i = true) ∧ hb x (lm x) = false := by
  obtain ⟨k, h1, h2, h3⟩ := lm_ex h
  rw [lm_uq h2 h3 h1]
  exact ⟨h1, h2, h3⟩
theorem lm_le {x : Int32} (h : lo 12 x) {k : Nat} (hk : hb x k = false) : lm x ≤ k := by
  rcases Nat.lt_or_ge k (lm x) with q | q
  · rw [(lm_sp h).2.1 k q] at hk; cases hk
  · exact q
theorem c_lowest {σ : Mm} {x : Int32} (h : lo 12 x) : fX9_lowestMissing σ x = some (nI (lm x)) := by
  have e : ∃ r, qX9_lowestMissing_2 σ x FU 0 = some r ∧ r = nI (lm x) := by
    refine lp_inv1e (fun k => ∀ i, i < k → hb x i = true) 12 _ ?_ ?_ (fun i hi => by omega) (fu (by omega))
    · intro k hk hJ
      have e0 : ∀ rec, gX9_lowestMissing_2 σ x rec (nI k) = if hb x k = false then some (nI k) else rec (nI (k + 1)) := by
        intro rec
        unfold gX9_lowestMissing_2
        simp (disch := omega) only [obs, bd, jn, bn2, un2, bn3, un3, bns, nI_1, nI_clamp, gN, gN0, gN1, gN2, gN3, nI_leI, nI_ltI, nI_eq, li_le, li_lt, le_li, lt_li, eq_li, li_eq, li_mul, mul_li, add_li, nI_add, m_has, c_has, hI_0, bI_0, if_neg]
      cases c : hb x k
      · exact Or.inl ⟨nI k, fun rec => by show gX9_lowestMissing_2 σ x rec (nI k) = _; rw [e0, c, if_pos rfl], by rw [lm_uq hJ c (by omega)]⟩
      · refine Or.inr ⟨fun rec => by show gX9_lowestMissing_2 σ x rec (nI k) = _; rw [e0, c, if_neg (by decide)], fun i hi => ?_⟩
        rcases Nat.lt_or_ge i k with q | q
        · exact hJ i q
        · have : i = k := by omega
          subst this; exact c
    · intro hJ
      refine ⟨nI 12, fun rec => ?_, by rw [lm_uq hJ (h 12 (Nat.le_refl _)) (Nat.le_refl _)]⟩
      show gX9_lowestMissing_2 σ x rec (nI 12) = _
      unfold gX9_lowestMissing_2
      simp (disch := omega) only [obs, bd, jn, bn2, un2, bn3, un3, bns, nI_1, nI_clamp, gN, gN0, gN1, gN2, gN3, nI_leI, nI_ltI, nI_eq, li_le, li_lt, le_li, lt_li, eq_li, li_eq, li_mul, mul_li, add_li, nI_add, m_has, c_has, hI_0, bI_0, if_pos]
  obtain ⟨r, e1, rfl⟩ := e
  unfold fX9_lowestMissing
  rw [e1]
  rfl
/-- taken by lower ones -/
def tk (S : Nat → Bool) (R : Nat → Int32) (C : Nat → Nat) (v : Nat) : Int32 := orF (fun u => if S u = true ∧ hb (R v) u = true then b1 (C u) else 0) v
def cg (S : Nat → Bool) (R : Nat → Int32) : Nat → Nat → Nat
  | 0 => fun _ => 0
  | v + 1 => fun u => if u = v then lm (tk S R (cg S R v) v) else cg S R v u
def CG (S : Nat → Bool) (R : Nat → Int32) : Nat → Nat := cg S R 12
theorem tk_cg {S S' : Nat → Bool} {R R' : Nat → Int32} {C C' : Nat → Nat} {v : Nat} (hS : ∀ u, u < v → S u = S' u) (hR : R v = R' v) (hC : ∀ u, u < v → S u = true → C u = C' u) : tk S R C v = tk S' R' C' v := orF_cg (fun u hu => by
  rw [← hS u hu, ← hR]
  by_cases c : S u = true ∧ hb (R v) u = true
  · rw [if_pos c, if_pos c, hC u hu c.1]
  · rw [if_neg c, if_neg c])
theorem cg_st {S : Nat → Bool} {R : Nat → Int32} {u : Nat} : ∀ k, u < k → cg S R k u = cg S R (u + 1) u := by
  intro k
  induction k with
  | zero => intro h; omega
  | succ k ih =>
    intro h
    rcases Nat.lt_or_ge u k with q | q
    · rw [← ih q]
      exact if_neg (by omega)
    · have : u = k := by omega
      subst this; rfl
theorem CG_eq {S : Nat → Bool} {R : Nat → Int32} {v : Nat} (hv : v < 12) : CG S R v = lm (tk S R (CG S R) v) := by
  unfold CG
  rw [cg_st 12 hv]
  have e : cg S R (v + 1) v = lm (tk S R (cg S R v) v) := if_pos rfl
  rw [e, tk_cg (fun _ _ => rfl) rfl (fun u hu _ => (cg_st v hu).trans (cg_st 12 (by omega)).symm)]
theorem tk_lo {S : Nat → Bool} {R : Nat → Int32} {C : Nat → Nat} {v : Nat} (hC : ∀ u, u < v → C u ≤ u) (hv : v ≤ 12) : lo v (tk S R C v) := lo_orF (fun u hu => by
  split
  · have := hC u hu
    exact lo_b1 (by omega) (by omega)
  · exact lo_0 _)
theorem lo_wk {m n : Nat} {x : Int32} (h : lo m x) (hmn : m ≤ n) : lo n x := fun i hi => h i (by omega)
theorem CG_le {S : Nat → Bool} {R : Nat → Int32} : ∀ v, v < 12 → CG S R v ≤ v := by
  have key : ∀ k, ∀ v, v < k → v < 12 → CG S R v ≤ v := by
    intro k
    induction k with
    | zero => intro v h; omega
    | succ k ih =>
      intro v h1 h2
      rw [CG_eq h2]
      have hl : lo v (tk S R (CG S R) v) := tk_lo (fun u hu => ih u (by omega) (by omega)) (by omega)
      exact lm_le (lo_wk hl (by omega)) (hl v (Nat.le_refl _))
  exact fun v hv => key (v + 1) v (by omega) hv
theorem tk_lo12 {S : Nat → Bool} {R : Nat → Int32} {v : Nat} (hv : v < 12) : lo 12 (tk S R (CG S R) v) := lo_wk (tk_lo (fun u hu => CG_le u (by omega)) (by omega)) (by omega)
theorem CG_ne {S : Nat → Bool} {R : Nat → Int32} {u v : Nat} (huv : u < v) (hv : v < 12) (hS : S u = true) (hR : hb (R v) u = true) : CG S R u ≠ CG S R v := by
  intro e
  have h1 := (lm_sp (tk_lo12 (S := S) (R := R) hv)).2.2
  rw [← CG_eq hv, ← e] at h1
  have hu := @CG_le S R u (by omega)
  have h2 : hb (tk S R (CG S R) v) (CG S R u) = true := by
    unfold tk
    rw [hb_orF, anyF_iff]
    refine ⟨u, huv, ?_⟩
    rw [if_pos ⟨hS, hR⟩, hb_b1 (by omega)]
    simp
  rw [h1] at h2
  cases h2
theorem CG_cg {S S' : Nat → Bool} {R R' : Nat → Int32} (hS : ∀ u, u < 12 → S u = S' u) (hR : ∀ u, u < 12 → R u = R' u) : ∀ v, v < 12 → CG S R v = CG S' R' v := by
  have key : ∀ k, ∀ v, v < k → v < 12 → CG S R v = CG S' R' v := by
    intro k
    induction k with
    | zero => intro v h; omega
    | succ k ih =>
      intro v h1 h2
      rw [CG_eq h2, CG_eq h2, tk_cg (fun u hu => hS u (by omega)) (hR v h2) (fun u hu _ => ih u (by omega) (by omega))]
  exact fun v hv => key (v + 1) v (by omega) hv
/-- the row of colours -/
def cv (S : Nat → Bool) (R : Nat → Int32) (v : Nat) : Int32 := if S v = true then nI (CG S R v) else -1
def mxc (S : Nat → Bool) (R : Nat → Int32) : Nat → Nat
  | 0 => 0
  | k + 1 => if S k = true then max (mxc S R k) (CG S R k + 1) else mxc S R k
theorem mxc_le {S : Nat → Bool} {R : Nat → Int32} : ∀ k, k ≤ 12 → mxc S R k ≤ k := by
  intro k
  induction k with
  | zero => intro _; exact Nat.le_refl _
  | succ k ih =>
    intro hk
    have h1 := ih (by omega)
    have h2 := @CG_le S R k (by omega)
    simp only [mxc]
    split <;> omega
theorem mxc_ge {S : Nat → Bool} {R : Nat → Int32} {v : Nat} (hS : S v = true) : ∀ k, v < k → CG S R v + 1 ≤ mxc S R k := by
  intro k
  induction k with
  | zero => intro h; omega
  | succ k ih =>
    intro h
    simp only [mxc]
    rcases Nat.lt_or_ge v k with q | q
    · have := ih q
      split <;> omega
    · have : v = k := by omega
      subst this
      rw [if_pos hS]; omega
theorem mxc_at {S : Nat → Bool} {R : Nat → Int32} : ∀ k, 0 < mxc S R k → ∃ v, v < k ∧ S v = true ∧ CG S R v + 1 = mxc S R k := by
  intro k
  induction k with
  | zero => intro h; simp [mxc] at h
  | succ k ih =>
    intro h
    simp only [mxc] at h ⊢
    split at h
    · next c =>
      rw [if_pos c]
      rcases Nat.lt_or_ge (CG S R k + 1) (mxc S R k) with q | q
      · obtain ⟨v, h1, h2, h3⟩ := ih (by omega)
        exact ⟨v, by omega, h2, by omega⟩
      · exact ⟨k, by omega, c, by omega⟩
    · next c =>
      rw [if_neg c]
      obtain ⟨v, h1, h2, h3⟩ := ih h
      exact ⟨v, by omega, h2, h3⟩
theorem c_colour {σ : Mm} {S : Nat → Bool} {R : Nat → Int32} {x : Int32} {a : Nat} (ha : a ≠ 91) (hS : ∀ v, v < 12 → hb x v = S v) (hR : ∀ v, v < 12 → σ 91 v = R v) : fX9_colourGreedily σ x 91 12 a 12 = some (upm σ a (fun v => if v < 12 then cv S R v else σ a v)) := by
  have e : qX9_colourGreedily_2 x 91 12 a 12 FU (σ, 0) = some (upm σ a (fun v => if v < 12 then cv S R v else σ a v)) := by
    refine lp_fr (fun k => (upm σ a (fun v => if v < k then cv S R v else σ a v), nI k)) 12 (by simp [upm_id]; rfl) ?_ ?_ (fu (by omega))
    · intro k hk rec
      show gX9_colourGreedily_2 x 91 12 a 12 rec (upm σ a (fun v => if v < k then cv S R v else σ a v)) (nI k) = rec (upm σ a (fun v => if v < k + 1 then cv S R v else σ a v), nI (k + 1))
      have e1 : ∀ f : Nat → Int32, (∀ u, u < k → S u = true → f u = nI (CG S R u)) → qX9_colourGreedily_26 (upm σ a f) x 91 12 a 12 (nI k) FU (0, 0) = some (tk S R (CG S R) k) := by
        intro f hf
        refine lp_fr (fun u => (orF (fun u => if S u = true ∧ hb (R k) u = true then b1 (CG S R u) else 0) u, nI u)) k rfl ?_ ?_ (fu (by omega))
        · intro u hu rec
          show gX9_colourGreedily_26 (upm σ a f) x 91 12 a 12 (nI k) rec (orF _ u) (nI u) = rec (orF _ u ||| _, nI (u + 1))
          have r1 : upm σ a f 91 k = R k := by rw [upm_n (Ne.symm ha)]; exact hR k hk
          have r2 := hS u (by omega)
          unfold gX9_colourGreedily_26
          simp (disch := omega) only [obs, bd, jn, bn2, un2, bn3, un3, bns, nI_1, nI_clamp, gN, gN0, gN1, gN2, gN3, nI_leI, nI_ltI, nI_eq, li_le, li_lt, le_li, lt_li, eq_li, li_eq, li_mul, mul_li, add_li, nI_add, m_has, c_has, hI_0, bI_0, if_neg, r1, hb_and, r2, upm_s]
          cases q1 : S u
          · simp [orB0]
          · cases q2 : hb (R k) u
            · simp [orB0]
            · simp [b1, hf u hu q1]
        · intro rec
          show gX9_colourGreedily_26 (upm σ a f) x 91 12 a 12 (nI k) rec _ (nI k) = _
          unfold gX9_colourGreedily_26
          simp (disch := omega) only [obs, bd, jn, bn2, un2, bn3, un3, bns, nI_1, nI_clamp, gN, gN0, gN1, gN2, gN3, nI_leI, nI_ltI, nI_eq, li_le, li_lt, le_li, lt_li, eq_li, li_eq, li_mul, mul_li, add_li, nI_add, m_has, c_has, hI_0, bI_0, if_pos]
          rfl
      have hlo := tk_lo12 (S := S) (R := R) hk
      have hSk := hS k hk
      generalize hF : upd (fun v => if v < k then cv S R v else σ a v) k (-1) = F
      have hf : ∀ u, u < k → S u = true → F u = nI (CG S R u) := fun u hu q => by
        rw [← hF, upd_a, if_neg (by omega), if_pos hu]
        exact if_pos q
      have e2 := e1 F hf
      unfold gX9_colourGreedily_2
      simp (disch := omega) only [obs, bd, jn, bn2, un2, bn3, un3, bns, nI_1, nI_clamp, gN, gN0, gN1, gN2, gN3, nI_leI, nI_ltI, nI_eq, li_le, li_lt, le_li, lt_li, eq_li, li_eq, li_mul, mul_li, add_li, nI_add, m_has, c_has, hI_0, bI_0, if_neg, upm_s, upm_u, hSk]
      rw [hF, e2]
      simp (disch := omega) only [obs, bd, jn, bn2, un2, bn3, un3, bns, nI_1, nI_clamp, gN, gN0, gN1, gN2, gN3, nI_leI, nI_ltI, nI_eq, li_le, li_lt, le_li, lt_li, eq_li, li_eq, li_mul, mul_li, add_li, nI_add, m_has, c_has, hI_0, bI_0, c_lowest hlo, upm_s, upm_u]
      cases q : S k
      · rw [if_pos rfl, ← hF]
        congr 3
        funext v
        rw [upd_a]
        by_cases h : v = k
        · subst h
          rw [if_pos rfl, if_pos (by omega)]
          unfold cv
          rw [q, if_neg (by decide)]
        · rw [if_neg h]
          by_cases h2 : v < k
          · rw [if_pos h2, if_pos (by omega)]
          · rw [if_neg h2, if_neg (by omega)]
      · rw [if_neg (by decide), ← hF]
        congr 3
        funext v
        rw [upd_a]
        by_cases h : v = k
        · subst h
          rw [if_pos rfl, if_pos (by omega)]
          unfold cv
          rw [q, if_pos rfl, ← CG_eq hk]
        · rw [if_neg h, upd_a, if_neg h]
          by_cases h2 : v < k
          · rw [if_pos h2, if_pos (by omega)]
          · rw [if_neg h2, if_neg (by omega)]
    · intro rec
      show gX9_colourGreedily_2 x 91 12 a 12 rec (upm σ a (fun v => if v < 12 then cv S R v else σ a v)) (nI 12) = _
      unfold gX9_colourGreedily_2
      simp (disch := omega) only [obs, bd, jn, bn2, un2, bn3, un3, bns, nI_1, nI_clamp, gN, gN0, gN1, gN2, gN3, nI_leI, nI_ltI, nI_eq, li_le, li_lt, le_li, lt_li, eq_li, li_eq, li_mul, mul_li, add_li, nI_add, m_has, c_has, hI_0, bI_0, if_pos]
  unfold fX9_colourGreedily
  rw [e]
  rfl
theorem mxm : ∀ m, m ≤ 12 → ∀ c, c ≤ 12 → mx (nI m - 1) (nI c) = nI (max m (c + 1)) - 1 := by decide +kernel
theorem mxn : ∀ m, m ≤ 12 → mx (nI m - 1) (-1) = nI m - 1 := by decide +kernel
theorem mxp : ∀ m, m ≤ 12 → ∀ c, c ≤ 13 → mx (nI m) (nI c) = nI (max m c) := by decide +kernel
theorem c_inUse {σ : Mm} {S : Nat → Bool} {R : Nat → Int32} {a : Nat} (h : ∀ v, v < 12 → σ a v = cv S R v) : fX9_numbersInUse σ a 12 = some (nI (mxc S R 12)) := by
  have e : qX9_numbersInUse_4 σ a 12 FU (-1, 0) = some (nI (mxc S R 12) - 1) := by
    refine lp_fr (fun k => (nI (mxc S R k) - 1, nI k)) 12 (show (nI 0 - 1, nI 0) = ((-1 : Int32), (0 : Int32)) by decide) ?_ ?_ (fu (by omega))
    · intro k hk rec
      show gX9_numbersInUse_4 σ a 12 rec (nI (mxc S R k) - 1) (nI k) = rec (nI (mxc S R (k + 1)) - 1, nI (k + 1))
      have h1 := @mxc_le S R k (by omega)
      have h2 := @CG_le S R k (by omega)
      unfold gX9_numbersInUse_4
      simp (disch := omega) only [obs, bd, jn, bn2, un2, bn3, un3, bns, nI_1, nI_clamp, gN, gN0, gN1, gN2, gN3, nI_leI, nI_ltI, nI_eq, li_le, li_lt, le_li, lt_li, eq_li, li_eq, li_mul, mul_li, add_li, nI_add, m_has, c_has, hI_0, bI_0, if_neg, h k hk]
      simp only [mxc, cv]
      by_cases q : S k = true
      · rw [if_pos q, if_pos q, mxm _ (by omega) _ (by omega)]
      · rw [if_neg q, if_neg q, mxn _ (by omega)]
    · intro rec
      show gX9_numbersInUse_4 σ a 12 rec _ (nI 12) = _
      unfold gX9_numbersInUse_4
      simp (disch := omega) only [obs, bd, jn, bn2, un2, bn3, un3, bns, nI_1, nI_clamp, gN, gN0, gN1, gN2, gN3, nI_leI, nI_ltI, nI_eq, li_le, li_lt, le_li, lt_li, eq_li, li_eq, li_mul, mul_li, add_li, nI_add, m_has, c_has, hI_0, bI_0, if_pos]
  unfold fX9_numbersInUse
  rw [e]
  simp only [obs]
  rw [Int32.sub_add_cancel]
