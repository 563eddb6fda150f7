/-! who is put out of the registers -/
def sA (H : Nat → Int32) (w : Int32) (v : Nat) : Bool := decide (H v = w)
def rcB (P : Pg) (x : Int32) (v : Nat) : Bool := decide (x ≠ 0) && cR P v
def cO (P : Pg) (x : Int32) (v : Nat) : Nat := if rcB P x v = true then rC P v else mC P v
def fos (S : Nat → Bool) (R : Nat → Int32) (k : Nat) : Nat → Nat → Nat
  | 0, c => c
  | f + 1, c => if S c = true ∧ k ≤ CG S R c then c else fos S R k f (c + 1)
def fo (S : Nat → Bool) (R : Nat → Int32) (k : Nat) : Nat := fos S R k 12 0
theorem fos_sp {S : Nat → Bool} {R : Nat → Int32} {k : Nat} : ∀ f c, (∃ v, c ≤ v ∧ v < c + f ∧ S v = true ∧ k ≤ CG S R v) → (c ≤ fos S R k f c ∧ fos S R k f c < c + f ∧ S (fos S R k f c) = true ∧ k ≤ CG S R (fos S R k f c)) ∧ ∀ u, c ≤ u → u < fos S R k f c → ¬ (S u = true ∧ k ≤ CG S R u) := by
  intro f
  induction f with
  | zero => rintro c ⟨v, h1, h2, -⟩; omega
  | succ f ih =>
    rintro c ⟨v, h1, h2, h3⟩
    simp only [fos]
    by_cases q : S c = true ∧ k ≤ CG S R c
    · rw [if_pos q]
      exact ⟨⟨Nat.le_refl _, by omega, q.1, q.2⟩, fun u a b => by omega⟩
    · rw [if_neg q]
      have hv : v ≠ c := fun e => q (e ▸ h3)
      obtain ⟨⟨a1, a2, a3⟩, a4⟩ := ih (c + 1) ⟨v, by omega, by omega, h3⟩
      refine ⟨⟨by omega, by omega, a3⟩, fun u b1 b2 => ?_⟩
      rcases Nat.lt_or_ge c u with r | r
      · exact a4 u r b2
      · have : u = c := by omega
        subst this; exact q
theorem fo_sp {S : Nat → Bool} {R : Nat → Int32} {k : Nat} (h : k < mxc S R 12) : (fo S R k < 12 ∧ S (fo S R k) = true ∧ k ≤ CG S R (fo S R k)) ∧ ∀ u, u < fo S R k → ¬ (S u = true ∧ k ≤ CG S R u) := by
  obtain ⟨v, h1, h2, h3⟩ := mxc_at (S := S) (R := R) 12 (by omega)
  obtain ⟨⟨-, a2, a3, a4⟩, a5⟩ := fos_sp (S := S) (R := R) (k := k) 12 0 ⟨v, Nat.zero_le _, by omega, h2, by omega⟩
  exact ⟨⟨by unfold fo; omega, a3, a4⟩, fun u hu => a5 u (Nat.zero_le _) hu⟩
theorem cv_ge {S : Nat → Bool} {R : Nat → Int32} {k v : Nat} (hk : k < 2 ^ 31) (hv : v < 12) : nI k ≤ cv S R v ↔ S v = true ∧ k ≤ CG S R v := by
  have h1 := @CG_le S R v hv
  unfold cv
  by_cases c : S v = true
  · rw [if_pos c, nI_leI hk (by omega)]
    exact ⟨fun q => ⟨c, q⟩, fun q => q.2⟩
  · rw [if_neg c]
    refine ⟨fun q => ?_, fun q => absurd q.1 c⟩
    have h2 := (le_iff _ _).mp q
    rw [nI_toInt hk] at h2
    have h3 : (-1 : Int32).toInt = -1 := by decide
    omega
/-- the cheapest, of the cheapest the lowest -/
def am (C : Nat → Bool) (K : Nat → Nat) : Nat → Nat
  | 0 => 12
  | v + 1 => if C v = true then (if am C K v = 12 then v else if K v < K (am C K v) then v else am C K v) else am C K v
theorem am_sp {C : Nat → Bool} {K : Nat → Nat} : ∀ n, n ≤ 12 → (am C K n = 12 ∧ ∀ u, u < n → C u = false) ∨ (am C K n < n ∧ C (am C K n) = true ∧ ∀ u, u < n → C u = true → K (am C K n) < K u ∨ (K (am C K n) = K u ∧ am C K n ≤ u)) := by
  intro n
  induction n with
  | zero => intro _; exact Or.inl ⟨rfl, fun u hu => by omega⟩
  | succ n ih =>
    intro hn
    simp only [am]
    by_cases c : C n = true
    · rw [if_pos c]
      rcases ih (by omega) with ⟨h1, h2⟩ | ⟨h1, h2, h3⟩
      · rw [if_pos h1]
        refine Or.inr ⟨by omega, c, fun u hu q => ?_⟩
        rcases Nat.lt_or_ge u n with r | r
        · rw [h2 u r] at q; cases q
        · have : u = n := by omega
          subst this; exact Or.inr ⟨rfl, Nat.le_refl _⟩
      · rw [if_neg (by omega)]
        by_cases c2 : K n < K (am C K n)
        · rw [if_pos c2]
          refine Or.inr ⟨by omega, c, fun u hu q => ?_⟩
          rcases Nat.lt_or_ge u n with r | r
          · have := h3 u r q
            left; omega
          · have : u = n := by omega
            subst this; exact Or.inr ⟨rfl, Nat.le_refl _⟩
        · rw [if_neg c2]
          refine Or.inr ⟨by omega, h2, fun u hu q => ?_⟩
          rcases Nat.lt_or_ge u n with r | r
          · exact h3 u r q
          · have : u = n := by omega
            subst this; omega
    · rw [if_neg c]
      rcases ih (by omega) with ⟨h1, h2⟩ | ⟨h1, h2, h3⟩
      · refine Or.inl ⟨h1, fun u hu => ?_⟩
        rcases Nat.lt_or_ge u n with r | r
        · exact h2 u r
        · have : u = n := by omega
          subst this; simpa using c
      · refine Or.inr ⟨by omega, h2, fun u hu q => ?_⟩
        rcases Nat.lt_or_ge u n with r | r
        · exact h3 u r q
        · have : u = n := by omega
          subst this; exact absurd q c
theorem am_uq {C : Nat → Bool} {K : Nat → Nat} {m : Nat} (hm : m < 12) (hC : C m = true) (h : ∀ u, u < 12 → C u = true → K m < K u ∨ (K m = K u ∧ m ≤ u)) : am C K 12 = m := by
  rcases am_sp (C := C) (K := K) 12 (Nat.le_refl _) with ⟨h1, h2⟩ | ⟨h1, h2, h3⟩
  · rw [h2 m hm] at hC; cases hC
  · have a := h3 m hm hC
    have b := h _ h1 h2
    omega
def cnd (H : Nat → Int32) (R : Nat → Int32) (f v : Nat) : Bool := decide (H v = 0) && (decide (v = f) || hb (R f) v)
def ou (P : Pg) (x : Int32) (k : Nat) (H : Nat → Int32) : Nat := am (cnd H (RV P) (fo (sA H 0) (RV P) k)) (cO P x) 12
def hs1 (P : Pg) (x : Int32) (k : Nat) (H : Nat → Int32) : Nat → Int32 := upd H (ou P x k H) (if rcB P x (ou P x k H) = true then 2 else 1)
theorem ou_sp {P : Pg} {x : Int32} {k : Nat} {H : Nat → Int32} (h : k < mxc (sA H 0) (RV P) 12) : ou P x k H < 12 ∧ H (ou P x k H) = 0 := by
  obtain ⟨⟨h1, h2, -⟩, -⟩ := fo_sp h
  have hf : cnd H (RV P) (fo (sA H 0) (RV P) k) (fo (sA H 0) (RV P) k) = true := by
    unfold cnd
    rw [show decide (H (fo (sA H 0) (RV P) k) = 0) = true from h2]
    simp
  rcases am_sp (C := cnd H (RV P) (fo (sA H 0) (RV P) k)) (K := cO P x) 12 (Nat.le_refl _) with ⟨-, q⟩ | ⟨q1, q2, -⟩
  · rw [q _ h1] at hf; cases hf
  · refine ⟨q1, ?_⟩
    unfold cnd at q2
    rw [Bool.and_eq_true] at q2
    exact of_decide_eq_true q2.1
def vA (H : Nat → Int32) (w : Int32) : Int32 := orF (fun v => if H v = w then b1 v else 0) 12
theorem hb_vA {H : Nat → Int32} {w : Int32} {v : Nat} : hb (vA H w) v = (decide (v < 12) && decide (H v = w)) := by
  apply Bool.eq_iff_iff.mpr
  unfold vA
  rw [hb_orF, anyF_iff, Bool.and_eq_true, decide_eq_true_eq, decide_eq_true_eq]
  constructor
  · rintro ⟨k, h1, h2⟩
    split at h2
    · next c =>
      rw [hb_b1 (by omega)] at h2
      have : k = v := by simpa using h2
      subst this
      exact ⟨h1, c⟩
    · rw [hb_0] at h2; cases h2
  · rintro ⟨h1, h2⟩
    refine ⟨v, h1, ?_⟩
    rw [if_pos h2, hb_b1 (by omega)]
    simp
theorem c_varsAt {σ : Mm} {H : Nat → Int32} {w : Int32} (h : ∀ v, v < 12 → σ 98 v = H v) : fX5_variablesAt σ w = some (vA H w) := by
  have e : qX5_variablesAt_4 σ w FU (0, 0) = some (vA H w) := by
    refine lp_fr (fun k => (orF (fun v => if H v = w then b1 v else 0) k, nI k)) 12 rfl ?_ ?_ (fu (by omega))
    · intro k hk rec
      show gX5_variablesAt_4 σ w rec (orF _ k) (nI k) = rec (orF _ k ||| _, nI (k + 1))
      unfold gX5_variablesAt_4
      simp (disch := omega) only [obs, bd, jn, bn2, un2, bn3, un3, bns, nI_1, nI_clamp, gN, gN0, gN1, gN2, gN3, nI_leI, nI_ltI, nI_eq, li_le, li_lt, le_li, lt_li, eq_li, li_eq, li_mul, mul_li, add_li, nI_add, m_has, c_has, hI_0, bI_0, if_neg, h k hk]
      by_cases c : H k = w
      · simp [c, b1]
      · simp [c, orB0]
    · intro rec
      show gX5_variablesAt_4 σ w rec _ (nI 12) = _
      unfold gX5_variablesAt_4
      simp (disch := omega) only [obs, bd, jn, bn2, un2, bn3, un3, bns, nI_1, nI_clamp, gN, gN0, gN1, gN2, gN3, nI_leI, nI_ltI, nI_eq, li_le, li_lt, le_li, lt_li, eq_li, li_eq, li_mul, mul_li, add_li, nI_add, m_has, c_has, hI_0, bI_0, if_pos]
      rfl
  unfold fX5_variablesAt
  rw [e]
  rfl
theorem c_better {σ : Mm} {P : Pg} {x : Int32} (hw : WP P) (hc : CP σ 1 4 P) (ha : AN σ P) (hx : σ 97 12 = x) {v : Nat} (hv : v < 12) : fX5_wouldBeRecomputed σ (nI v) = some (bI (rcB P x v)) := by
  unfold fX5_wouldBeRecomputed rcB
  rw [c_canRe hw hc ha.2.1 ha.1 hv, hx]
  simp only [obs]
  by_cases c : x = 0
  · simp [c, bI]
  · cases cR P v <;> simp [c, bI]
theorem c_outside {σ : Mm} {P : Pg} {x : Int32} (hw : WP P) (hc : CP σ 1 4 P) (ha : AN σ P) (hx : σ 97 12 = x) {v : Nat} (hv : v < 12) : fX5_outsideCost σ (nI v) = some (nI (cO P x v)) := by
  unfold fX5_outsideCost cO
  rw [c_better hw hc ha hx hv, c_memoryCost hw hc ha.2.1 ha.1 hv, c_recost hw hc ha.2.1 hv]
  simp only [obs]
  cases rcB P x v <;> simp [bI]
theorem bO {P : Pg} (hw : WP P) {x : Int32} {v : Nat} : cO P x v < 2 ^ 31 := by
  unfold cO
  split
  · exact bR hw
  · exact bM hw
theorem m_out {σ : Mm} {P : Pg} {x : Int32} (hw : WP P) (hm : MA σ P) {v : Nat} (hv : v < 12) : fX10_costOut σ (nI v) x = some (nI (cO P x v)) := by
  rw [m_costOut hw hm.1 hm.2.1 hv]
  unfold cO rcB
  by_cases c : x = 0
  · simp [c]
  · cases cR P v <;> simp [c]
theorem c_over {σ : Mm} {S : Nat → Bool} {R : Nat → Int32} {k : Nat} (hk : k < 2 ^ 31) (h9 : σ 97 9 = nI k) (hC : ∀ v, v < 12 → σ 99 v = cv S R v) (h : k < mxc S R 12) : fX5_firstOverRegisters σ = some (nI (fo S R k)) := by
  obtain ⟨⟨f1, f2, f3⟩, f4⟩ := fo_sp h
  have e : ∃ r, qX5_firstOverRegisters_2 σ FU 0 = some r ∧ r = nI (fo S R k) := by
    refine lp_inv1e (fun _ => True) (fo S R k) _ ?_ ?_ trivial (fu (by omega))
    · intro j hj _
      refine Or.inr ⟨fun rec => ?_, trivial⟩
      show gX5_firstOverRegisters_2 σ rec (nI j) = _
      have hq : ¬ nI k ≤ cv S R j := fun q => f4 j hj ((cv_ge hk (by omega)).mp q)
      unfold gX5_firstOverRegisters_2
      simp (disch := omega) only [obs, bd, jn, bn2, un2, bn3, un3, bns, nI_1, nI_clamp, gN, gN0, gN1, gN2, gN3, nI_leI, nI_ltI, nI_eq, li_le, li_lt, le_li, lt_li, eq_li, li_eq, li_mul, mul_li, add_li, nI_add, m_has, c_has, hI_0, bI_0, h9, hC, if_neg, hq]
      simp
    · intro _
      refine ⟨_, fun rec => ?_, rfl⟩
      show gX5_firstOverRegisters_2 σ rec (nI (fo S R k)) = _
      have hq : nI k ≤ cv S R (fo S R k) := (cv_ge hk f1).mpr ⟨f2, f3⟩
      unfold gX5_firstOverRegisters_2
      simp (disch := omega) only [obs, bd, jn, bn2, un2, bn3, un3, bns, nI_1, nI_clamp, gN, gN0, gN1, gN2, gN3, nI_leI, nI_ltI, nI_eq, li_le, li_lt, le_li, lt_li, eq_li, li_eq, li_mul, mul_li, add_li, nI_add, m_has, c_has, hI_0, bI_0, h9, hC, hq, if_true]
      simp
  obtain ⟨r, e1, rfl⟩ := e
  unfold fX5_firstOverRegisters
  rw [e1]
  rfl
theorem m_over {σ : Mm} {S : Nat → Bool} {R : Nat → Int32} {k : Nat} {x : Int32} (hk : k < 2 ^ 31) (h9 : σ 123 20 = nI k) (hC : ∀ v, v < 12 → σ 140 v = cv S R v) (h : k < mxc S R 12) : qX10_putsOut_2 σ x FU 0 = some (nI (fo S R k)) := by
  obtain ⟨⟨f1, f2, f3⟩, f4⟩ := fo_sp h
  have e : ∃ r, qX10_putsOut_2 σ x FU 0 = some r ∧ r = nI (fo S R k) := by
    refine lp_inv1e (fun _ => True) (fo S R k) _ ?_ ?_ trivial (fu (by omega))
    · intro j hj _
      refine Or.inr ⟨fun rec => ?_, trivial⟩
      show gX10_putsOut_2 σ x rec (nI j) = _
      have hq : ¬ nI k ≤ cv S R j := fun q => f4 j hj ((cv_ge hk (by omega)).mp q)
      unfold gX10_putsOut_2
      simp (disch := omega) only [obs, bd, jn, bn2, un2, bn3, un3, bns, nI_1, nI_clamp, gN, gN0, gN1, gN2, gN3, nI_leI, nI_ltI, nI_eq, li_le, li_lt, le_li, lt_li, eq_li, li_eq, li_mul, mul_li, add_li, nI_add, m_has, c_has, hI_0, bI_0, h9, hC, if_neg, hq]
      simp
    · intro _
      refine ⟨_, fun rec => ?_, rfl⟩
      show gX10_putsOut_2 σ x rec (nI (fo S R k)) = _
      have hq : nI k ≤ cv S R (fo S R k) := (cv_ge hk f1).mpr ⟨f2, f3⟩
      unfold gX10_putsOut_2
      simp (disch := omega) only [obs, bd, jn, bn2, un2, bn3, un3, bns, nI_1, nI_clamp, gN, gN0, gN1, gN2, gN3, nI_leI, nI_ltI, nI_eq, li_le, li_lt, le_li, lt_li, eq_li, li_eq, li_mul, mul_li, add_li, nI_add, m_has, c_has, hI_0, bI_0, h9, hC, hq, if_true]
  obtain ⟨r, e1, rfl⟩ := e
  exact e1
