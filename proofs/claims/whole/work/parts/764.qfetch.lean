/-! the machine with a plan: the relation, fetching -/
def co (P : Pg) (H : Nat → Int32) (v : Nat) : Nat := CG (sA H 0) (RV P) v
def sl' (P : Pg) (H : Nat → Int32) (v : Nat) : Nat := CG (sA H 1) (RV P) v
def SCR (σ τ : Mm) : Prop := (∀ j, j < 2 → σ 112 j = τ 153 j) ∧ ((σ 107 13 = 1 ∧ τ 123 38 = 0) ∨ (σ 107 13 = 0 ∧ τ 123 38 = 1)) ∧ ∀ v, v < 12 → ¬ (σ 112 0 = nI v ∧ σ 112 1 = nI v)
def COH (P : Pg) (H : Nat → Int32) (T : Nat → Nat → Int32) (b i : Nat) (σ : Mm) : Prop := ∀ j v, j < 2 → v < 12 → H v = 1 → PCO P T b v = -1 → σ 112 j = nI v → hb (lv P (LV P) b i) v = true → σ 111 j = σ 110 (sl' P H v)
def LE1 (P : Pg) (H : Nat → Int32) (T : Nat → Nat → Int32) (b v : Nat) (σ τ : Mm) : Prop := (H v = 0 → σ 109 (co P H v) = τ 147 (co P H v)) ∧ (H v = 1 → (∀ l c, l < LC P → T v l = nI c → c < 12 → hb (BD P l) b = true → σ 109 c = τ 147 c) ∧ ((∀ l, l < LC P → T v l ≠ -1 → hb (BD P l) b = true → hb (tI P (BD P l)) v = false) → σ 110 (sl' P H v) = τ 148 (sl' P H v)))
def CTS (σ τ : Mm) : Prop := σ 107 4 = τ 150 1 ∧ σ 107 5 = τ 150 2 ∧ σ 107 6 = τ 150 3
def RelQ (σ0 τ0 : Mm) (P : Pg) (H : Nat → Int32) (T : Nat → Nat → Int32) (b i : Nat) (σ τ : Mm) : Prop := Fq SC σ0 σ ∧ FrM τ0 τ ∧ σ 107 2 = nI b ∧ τ 123 39 = nI b ∧ hb (RE P 8) b = true ∧ CTS σ τ ∧ SCR σ τ ∧ COH P H T b i σ ∧ ∀ v, v < 12 → hb (lv P (LV P) b i) v = true → LE1 P H T b v σ τ
/-- what the two machines keep in a step -/
def KP (σ τ σ' τ' : Mm) : Prop := σ' 108 = σ 108 ∧ σ' 107 3 = σ 107 3 ∧ τ' 152 = τ 152 ∧ τ' 150 0 = τ 150 0
theorem KP_rf {σ τ : Mm} : KP σ τ σ τ := ⟨rfl, rfl, rfl, rfl⟩
theorem KP.tr {σ τ σ1 τ1 σ2 τ2 : Mm} (h : KP σ τ σ1 τ1) (h2 : KP σ1 τ1 σ2 τ2) : KP σ τ σ2 τ2 := ⟨h2.1.trans h.1, h2.2.1.trans h.2.1, h2.2.2.1.trans h.2.2.1, h2.2.2.2.trans h.2.2.2⟩
theorem RelQ_cl {σ0 τ0 : Mm} {P : Pg} {H : Nat → Int32} {T : Nat → Nat → Int32} : ∀ b i σc σm σc' σm', RelQ σ0 τ0 P H T b i σc σm → (∀ j, j ≠ 108 → j ≠ 107 → σc' j = σc j) → (∀ i, i ≠ 3 → σc' 107 i = σc 107 i) → (∀ j, j ≠ 152 → j ≠ 150 → σm' j = σm j) → (∀ i, i ≠ 0 → σm' 150 i = σm 150 i) → RelQ σ0 τ0 P H T b i σc' σm' := by
  rintro b i σ τ σ' τ' ⟨h1, h2, h3, h4, h5, ⟨h6, h7, h8⟩, ⟨h9, h10, h11⟩, h12, h13⟩ q1 q2 q3 q4
  refine ⟨fun j hj => ?_, FrM_cl h2 q3, ?_, ?_, h5, ⟨?_, ?_, ?_⟩, ⟨fun j hj => ?_, ?_, fun v hv => ?_⟩, fun j v hj hv hH hp hh hl => ?_, fun v hv hl => ⟨fun hH => ?_, fun hH => ⟨fun l c a1 a2 a3 a4 => ?_, fun a => ?_⟩⟩⟩
  · have a1 : j ≠ 108 := fun e => by subst e; simp [SC] at hj
    have a2 : j ≠ 107 := fun e => by subst e; simp [SC] at hj
    rw [q1 j a1 a2]; exact h1 j hj
  · rw [q2 2 (by omega)]; exact h3
  · rw [q3 123 (by omega) (by omega)]; exact h4
  · rw [q2 4 (by omega), q4 1 (by omega)]; exact h6
  · rw [q2 5 (by omega), q4 2 (by omega)]; exact h7
  · rw [q2 6 (by omega), q4 3 (by omega)]; exact h8
  · rw [q1 112 (by omega) (by omega), q3 153 (by omega) (by omega)]; exact h9 j hj
  · rw [q2 13 (by omega), q3 123 (by omega) (by omega)]; exact h10
  · rw [q1 112 (by omega) (by omega)]; exact h11 v hv
  · rw [q1 112 (by omega) (by omega)] at hh
    rw [q1 111 (by omega) (by omega), q1 110 (by omega) (by omega)]
    exact h12 j v hj hv hH hp hh hl
  · rw [q1 109 (by omega) (by omega), q3 147 (by omega) (by omega)]; exact (h13 v hv hl).1 hH
  · rw [q1 109 (by omega) (by omega), q3 147 (by omega) (by omega)]; exact ((h13 v hv hl).2 hH).1 l c a1 a2 a3 a4
  · rw [q1 110 (by omega) (by omega), q3 148 (by omega) (by omega)]; exact ((h13 v hv hl).2 hH).2 a
/-- the scratch register for v, both machines -/
theorem hold1 {σ τ : Mm} (h : SCR σ τ) {v : Nat} (hv : v < 12) : ∃ ch w, ch < 2 ∧ fX6_scratchFor σ (nI v) = some (nI ch) ∧ (σ 112 ch = nI v ↔ w = true) ∧ fX10_holds τ (nI v) = some (bI w, upm (upm τ 153 (upd (τ 153) ch (nI v))) 123 (upd (τ 123) 38 (1 - nI ch))) ∧ ∀ j, j < 2 → j ≠ ch → σ 112 j ≠ nI v := by
  obtain ⟨h1, h2, h3⟩ := h
  have a0 := h1 0 (by omega)
  have a1 := h1 1 (by omega)
  have eh : fX10_held τ (nI v) = some (if σ 112 0 = nI v then 0 else if σ 112 1 = nI v then 1 else -1) := by
    unfold fX10_held
    simp (disch := omega) only [gN0, gN1]
    rw [show Int32.toNatClampNeg 0 = 0 from rfl, show Int32.toNatClampNeg 1 = 1 from rfl, ← a0, ← a1]
    by_cases c0 : σ 112 0 = nI v
    · rw [if_pos c0, if_pos c0]
    · rw [if_neg c0, if_neg c0]
      by_cases c1 : σ 112 1 = nI v
      · rw [if_pos c1, if_pos c1]
      · rw [if_neg c1, if_neg c1]
  have es : fX6_scratchFor σ (nI v) = some (if σ 112 0 = nI v then 0 else if σ 112 1 = nI v then 1 else 1 - σ 107 13) := by
    unfold fX6_scratchFor
    simp (disch := omega) only [gN0, gN1]
    rw [show Int32.toNatClampNeg 0 = 0 from rfl, show Int32.toNatClampNeg 1 = 1 from rfl]
    by_cases c0 : σ 112 0 = nI v
    · rw [if_pos c0, if_pos c0]
    · rw [if_neg c0, if_neg c0]
      by_cases c1 : σ 112 1 = nI v
      · rw [if_pos c1, if_pos c1]
      · rw [if_neg c1, if_neg c1]
  rw [es]
  unfold fX10_holds
  rw [eh]
  simp only [obs, jn]
  by_cases c0 : σ 112 0 = nI v
  · refine ⟨0, true, by omega, ?_, ⟨fun _ => rfl, fun _ => c0⟩, ?_, fun j hj hn q => ?_⟩
    · rw [if_pos c0]; rfl
    · rw [if_pos c0, if_neg (by decide), if_neg (by decide)]
      rfl
    · have : j = 1 := by omega
      subst this
      exact h3 v hv ⟨c0, q⟩
  · by_cases c1 : σ 112 1 = nI v
    · refine ⟨1, true, by omega, ?_, ⟨fun _ => rfl, fun _ => c1⟩, ?_, fun j hj hn q => ?_⟩
      · rw [if_neg c0, if_pos c1]; rfl
      · rw [if_neg c0, if_pos c1, if_neg (by decide), if_neg (by decide)]
        rfl
      · have : j = 0 := by omega
        subst this
        exact c0 q
    · rcases h2 with ⟨r1, r2⟩ | ⟨r1, r2⟩
      · refine ⟨0, false, by omega, ?_, ⟨fun q => absurd q c0, fun q => by cases q⟩, ?_, fun j hj hn q => ?_⟩
        · rw [if_neg c0, if_neg c1, r1]; rfl
        · rw [if_neg c0, if_neg c1, if_pos (by decide), if_pos trivial, r2]
          rfl
        · have : j = 1 := by omega
          subst this
          exact c1 q
      · refine ⟨1, false, by omega, ?_, ⟨fun q => absurd q c1, fun q => by cases q⟩, ?_, fun j hj hn q => ?_⟩
        · rw [if_neg c0, if_neg c1, r1]; rfl
        · rw [if_neg c0, if_neg c1, if_pos (by decide), if_pos trivial, r2]
          rfl
        · have : j = 0 := by omega
          subst this
          exact c0 q
theorem sl_i {P : Pg} {H : Nat → Int32} {v : Nat} (hv : v < 12) : sl' P H v < 12 := by
  have := @CG_le (sA H 1) (RV P) v hv
  unfold sl'
  omega
theorem co_i {P : Pg} {H : Nat → Int32} {v : Nat} (hv : v < 12) : co P H v < 12 := by
  have := @CG_le (sA H 0) (RV P) v hv
  unfold co
  omega
theorem cv1 {P : Pg} {H : Nat → Int32} {v : Nat} (h : H v = 1) : cv (sA H 1) (RV P) v = nI (sl' P H v) := if_pos (decide_eq_true h)
theorem cv0 {P : Pg} {H : Nat → Int32} {v : Nat} (h : H v = 0) : cv (sA H 0) (RV P) v = nI (co P H v) := if_pos (decide_eq_true h)
theorem cvn {P : Pg} {H : Nat → Int32} {v : Nat} (h : H v ≠ 0) : cv (sA H 0) (RV P) v = -1 := if_neg (fun q => h (of_decide_eq_true q))
theorem PCO_c {P : Pg} {H : Nat → Int32} {k : Nat} {T : Nat → Nat → Int32} (ho : OKp P H k T) {b v : Nat} (hv : v < 12) : (PCO P T b v = -1 ∧ ∀ l, l < LC P → T v l ≠ -1 → hb (BD P l) b = false) ∨ ∃ l c, l < LC P ∧ c < 12 ∧ T v l = nI c ∧ hb (BD P l) b = true ∧ PCO P T b v = nI c ∧ H v = 1 := by
  obtain ⟨hw, -, oT, oU, hk⟩ := ho
  have h8 := LC_le hw
  rcases pcs_sp (P := P) (T := T) (b := b) (v := v) (LC P) with h | ⟨l, q1, q2, q3, q4⟩
  · exact Or.inl h
  · rcases oT v l hv (by omega) with e | ⟨-, c, c1, e⟩
    · exact absurd e q2
    · refine Or.inr ⟨l, c, q1, by omega, e, q3, ?_, oU.1 v l hv (by omega) q2⟩
      unfold PCO
      rw [q4, e]
theorem q_const {σ τ : Mm} {P : Pg} {v : Nat} (hw : WP P) (ha : AU σ P) (hm : MP τ 124 1 P) (hl : ML τ P) (hv : v < 12) (hr : cR P v = true) : ∃ r, fX10_constantRow τ (nI v) = some r ∧ (∃ n, n < 64 ∧ r = nI n ∧ τ 132 n = σ 93 v) := by
  have hn := hw.1.2
  obtain ⟨r, e, h⟩ := m_constantRow hw hm hl hv
  refine ⟨r, e, ?_⟩
  rcases h with ⟨h, -⟩ | ⟨-, b, i, hb', hi, ht, hk, rfl⟩
  · rw [hr] at h; cases h
  · have hcR := of_decide_eq_true hr
    have sE := @sDCE P v (P_n P)
    have hD : sm (fun b => nD P b v) (P_n P) = 1 := by
      have h1 := hcR.1
      have h2 := hcR.2
      split at h1 <;> omega
    obtain ⟨c, j, g1, g2, g3, g4, g5⟩ := ha.2.2.2 v hv (by rw [hcR.2]; omega)
    have := D_two hb' hi ht g1 g2 g3 hD
    obtain ⟨rfl, rfl⟩ := this
    have h8 := hw.2.1 b (by omega)
    exact ⟨8 * b + i, by omega, rfl, by rw [g5]; exact hm.2.2.2.2.2.2.2.2.2.2.1 b (by omega) i hi⟩
theorem q_fetch {σ0 τ0 : Mm} {P : Pg} {H : Nat → Int32} {k : Nat} {T : Nat → Nat → Int32} (ho : OKp P H k T) (hsq : SQ σ0 P H k T) (hsm : SM τ0 P H T) {b i v : Nat} {σ τ : Mm} (hb' : b < 8) (hR : RelQ σ0 τ0 P H T b i σ τ) (hv : v < 12) (hl : hb (lv P (LV P) b i) v = true) (hu : uV P v = true) : ∃ r σ' τ', fX6_fetch σ (nI v) = some (r, σ') ∧ fX10_got τ (nI v) = some (r, τ') ∧ RelQ σ0 τ0 P H T b i σ' τ' ∧ KP σ τ σ' τ' := by
  obtain ⟨h1, h2, h3, h4, h5, h6, h7, h8, h9⟩ := id hR
  have hw := ho.1
  have hs := SQ_fq h1 hsq
  have ht := SM_fr h2 hsm
  have e98 := hs.1.2.2.2.1 v hv
  have e139 := ht.2.2.2.1 v hv
  have e40 := ht.2.2.2.2.2.2.2
  have eR := c_regIn ho hs hb' hv
  have eC := m_colOf ho ht hb' hv
  have hLE := h9 v hv hl
  unfold fX6_fetch fX10_got
  rw [if_neg (show ¬ τ 123 40 = 0 by rw [e40]; decide), h3, h4]
  simp (disch := omega) only [obs, bd, jn, bn2, un2, bn3, un3, bns, nI_1, nI_clamp, gN, gN0, gN1, gN2, gN3, nI_leI, nI_ltI, nI_eq, li_le, li_lt, le_li, lt_li, eq_li, li_eq, li_mul, mul_li, add_li, nI_add, m_has, c_has, hI_0, bI_0, e98, e139]
  rcases H_used ho.2.1 hv hu with c | c | ⟨c, cr⟩
  · have cp : PCO P T b v = -1 := by
      rcases PCO_c ho (b := b) hv with ⟨q, -⟩ | ⟨_, _, _, _, _, _, _, q⟩
      · exact q
      · rw [c] at q; exact absurd q (by decide)
    have l1 := co_i (P := P) (H := H) hv
    rw [c, if_neg (by decide), if_pos rfl, eR, cp, if_pos rfl, cv0 c, ht.2.2.2.2.1 v hv, cv0 c]
    simp only [obs]
    rw [if_neg (nI_ne_m1 (by omega))]
    simp (disch := omega) only [obs, bd, jn, bn2, un2, bn3, un3, bns, nI_1, nI_clamp, gN, gN0, gN1, gN2, gN3, nI_leI, nI_ltI, nI_eq, li_le, li_lt, le_li, lt_li, eq_li, li_eq, li_mul, mul_li, add_li, nI_add, m_has, c_has, hI_0, bI_0]
    exact ⟨_, σ, τ, rfl, by rw [hLE.1 c], hR, KP_rf⟩
  · rw [c, if_neg (by decide), if_neg (by decide), if_neg (by decide), eR, eC]
    simp only [obs]
    rcases PCO_c ho (b := b) hv with ⟨cp, cn⟩ | ⟨l, cc, q1, q2, q3, q4, q5, -⟩
    · rw [cp, if_pos rfl, cvn (by rw [c]; decide), if_pos rfl, if_pos (by decide)]
      obtain ⟨ch, w, k1, k2, k3, k4, k5⟩ := hold1 h7 hv
      have ls := sl_i (P := P) (H := H) hv
      have eM : σ 110 (sl' P H v) = τ 148 (sl' P H v) := (hLE.2 c).2 (fun l a1 a2 a3 => by rw [cn l a1 a2] at a3; cases a3)
      have e100 := hs.2.1 v hv
      rw [cv1 c] at e100
      have e141 := ht.2.2.2.2.2.1 v hv
      rw [cv1 c] at e141
      generalize hτ1 : upm (upm τ 153 (upd (τ 153) ch (nI v))) 123 (upd (τ 123) 38 (1 - nI ch)) = τ1 at k4
      have t153 : ∀ j, τ1 153 j = if j = ch then nI v else τ 153 j := fun j => by rw [← hτ1, upm_n (by omega), upm_s, upd_a]
      have t123 : ∀ j, j ≠ 38 → τ1 123 j = τ 123 j := fun j hj => by rw [← hτ1, upm_s, upd_a, if_neg hj]
      have t38 : τ1 123 38 = 1 - nI ch := by rw [← hτ1, upm_s, upd_a, if_pos rfl]
      have tn : ∀ j, j ≠ 153 → j ≠ 123 → τ1 j = τ j := fun j a b => by rw [← hτ1, upm_n b, upm_n a]
      have F1 : FrM τ0 τ1 := by
        have a1 : FrM τ0 (upm τ 153 (upd (τ 153) ch (nI v))) := h2.up (by simp)
        have a2 := a1.u3 (i := 38) (x := 1 - nI ch) (Or.inl rfl)
        rw [upm_n (show (123 : Nat) ≠ 153 by omega), hτ1] at a2
        exact a2
      have rec' : ∀ s : Mm, s 107 13 = nI ch → ((s 107 13 = 1 ∧ τ1 123 38 = 0) ∨ (s 107 13 = 0 ∧ τ1 123 38 = 1)) := fun s hs' => by
        rw [hs', t38]
        rcases (show ch = 0 ∨ ch = 1 by omega) with e | e
        · subst e; exact Or.inr ⟨rfl, rfl⟩
        · subst e; exact Or.inl ⟨rfl, rfl⟩
      unfold fX6_fetchFromMemory
      rw [k2, k4]
      simp (disch := omega) only [obs, bd, jn, bn2, un2, bn3, un3, bns, nI_1, nI_clamp, gN, gN0, gN1, gN2, gN3, nI_leI, nI_ltI, nI_eq, li_le, li_lt, le_li, lt_li, eq_li, li_eq, li_mul, mul_li, add_li, nI_add, m_has, c_has, hI_0, bI_0]
      cases w
      · have k3' : ¬ σ 112 ch = nI v := fun q => by have := k3.mp q; cases this
        rw [if_neg k3', upm_n (show (100 : Nat) ≠ 112 by omega), e100, upm_n (show (110 : Nat) ≠ 112 by omega)]
        simp (disch := omega) only [obs, bd, jn, bn2, un2, bn3, un3, bns, nI_1, nI_clamp, gN, gN0, gN1, gN2, gN3, nI_leI, nI_ltI, nI_eq, li_le, li_lt, le_li, lt_li, eq_li, li_eq, li_mul, mul_li, add_li, nI_add, m_has, c_has, hI_0, bI_0]
        rw [if_pos trivial]
        rw [show Int32.toNatClampNeg 1 = 1 from rfl, upm_n (show (141 : Nat) ≠ 150 by omega), tn 141 (by omega) (by omega), e141]
        simp (disch := omega) only [obs, bd, jn, bn2, un2, bn3, un3, bns, nI_1, nI_clamp, gN, gN0, gN1, gN2, gN3, nI_leI, nI_ltI, nI_eq, li_le, li_lt, le_li, lt_li, eq_li, li_eq, li_mul, mul_li, add_li, nI_add, m_has, c_has, hI_0, bI_0]
        have F2 : FrM τ0 (upm τ1 150 (upd (τ1 150) 1 (τ1 150 1 + 1))) := F1.up (by simp)
        refine ⟨_, _, _, rfl, ?_, ⟨?_, F2, ?_, ?_, h5, ⟨?_, ?_, ?_⟩, ⟨fun j hj => ?_, ?_, fun u hu' => ?_⟩, fun j u hj hu' hH hp hh hl' => ?_, fun u hu' hl' => ⟨fun hH => ?_, fun hH => ⟨fun l c' a1 a2 a3 a4 => ?_, fun a => ?_⟩⟩⟩, ?_⟩
        · simp (disch := omega) only [upm_s, upm_n, ne_eq, upd_a, if_true]
          rw [tn 148 (by omega) (by omega), eM]
        · exact (((h1.up (by simp [SC])).up (by simp [SC])).up (by simp [SC])).up (by simp [SC])
        · simp (disch := omega) only [upm_s, upm_n, ne_eq, upd_a, if_neg]; exact h3
        · rw [upm_n (by omega), t123 39 (by omega)]; exact h4
        · simp (disch := omega) only [upm_s, upm_n, ne_eq, upd_a, if_neg, if_true]
          rw [tn 150 (by omega) (by omega), h6.1]
        · simp (disch := omega) only [upm_s, upm_n, ne_eq, upd_a, if_neg, if_true]
          rw [tn 150 (by omega) (by omega)]; exact h6.2.1
        · simp (disch := omega) only [upm_s, upm_n, ne_eq, upd_a, if_neg, if_true]
          rw [tn 150 (by omega) (by omega)]; exact h6.2.2
        · simp (disch := omega) only [upm_s, upm_n, ne_eq, upd_a]
          rw [t153, h7.1 j hj]
        · simp (disch := omega) only [upm_n, ne_eq]
          exact rec' _ (by simp (disch := omega) only [upm_s, upd_a, if_true])
        · simp (disch := omega) only [upm_s, upm_n, ne_eq, upd_a]
          rintro ⟨q1, q2⟩
          rcases (show ch = 0 ∨ ch = 1 by omega) with e | e
          · subst e
            rw [if_pos rfl] at q1
            rw [if_neg (by omega)] at q2
            exact k5 1 (by omega) (by omega) (q2.trans q1.symm)
          · subst e
            rw [if_neg (by omega)] at q1
            rw [if_pos rfl] at q2
            exact k5 0 (by omega) (by omega) (q1.trans q2.symm)
        · simp (disch := omega) only [upm_s, upm_n, ne_eq, upd_a] at hh ⊢
          by_cases q : j = ch
          · rw [if_pos q] at hh
            rw [if_pos q, (nI_eq (by omega) (by omega)).mp hh]
          · rw [if_neg q] at hh
            rw [if_neg q]
            exact h8 j u hj hu' hH hp hh hl'
        · simp (disch := omega) only [upm_n, ne_eq]
          rw [tn 147 (by omega) (by omega)]; exact (h9 u hu' hl').1 hH
        · simp (disch := omega) only [upm_n, ne_eq]
          rw [tn 147 (by omega) (by omega)]; exact ((h9 u hu' hl').2 hH).1 l c' a1 a2 a3 a4
        · simp (disch := omega) only [upm_n, ne_eq]
          rw [tn 148 (by omega) (by omega)]; exact ((h9 u hu' hl').2 hH).2 a
        · refine ⟨?_, ?_, ?_, ?_⟩
          · simp (disch := omega) only [upm_n, ne_eq]
          · simp (disch := omega) only [upm_s, upm_n, ne_eq, upd_a, if_neg]
          · simp (disch := omega) only [upm_n, ne_eq]; rw [tn 152 (by omega) (by omega)]
          · simp (disch := omega) only [upm_s, upd_a, if_neg]; rw [tn 150 (by omega) (by omega)]
      · have k3' : σ 112 ch = nI v := k3.mpr rfl
        rw [if_pos k3', if_neg (by decide), tn 141 (by omega) (by omega), e141]
        simp (disch := omega) only [obs, bd, jn, bn2, un2, bn3, un3, bns, nI_1, nI_clamp, gN, gN0, gN1, gN2, gN3, nI_leI, nI_ltI, nI_eq, li_le, li_lt, le_li, lt_li, eq_li, li_eq, li_mul, mul_li, add_li, nI_add, m_has, c_has, hI_0, bI_0]
        have hco := h8 ch v k1 hv c cp k3' hl
        refine ⟨_, _, _, rfl, ?_, ⟨?_, F1, ?_, ?_, h5, ⟨?_, ?_, ?_⟩, ⟨fun j hj => ?_, ?_, fun u hu' => ?_⟩, fun j u hj hu' hH hp hh hl' => ?_, fun u hu' hl' => ⟨fun hH => ?_, fun hH => ⟨fun l c' a1 a2 a3 a4 => ?_, fun a => ?_⟩⟩⟩, ?_⟩
        · rw [upm_n (by omega), hco, eM, tn 148 (by omega) (by omega)]
        · exact h1.up (by simp [SC])
        · rw [upm_s, upd_a, if_neg (by omega)]; exact h3
        · rw [t123 39 (by omega)]; exact h4
        · rw [upm_s, upd_a, if_neg (by omega), tn 150 (by omega) (by omega)]; exact h6.1
        · rw [upm_s, upd_a, if_neg (by omega), tn 150 (by omega) (by omega)]; exact h6.2.1
        · rw [upm_s, upd_a, if_neg (by omega), tn 150 (by omega) (by omega)]; exact h6.2.2
        · rw [upm_n (by omega), t153]
          by_cases q : j = ch
          · rw [if_pos q, q]; exact k3'
          · rw [if_neg q]; exact h7.1 j hj
        · exact rec' _ (by rw [upm_s, upd_a, if_pos rfl])
        · rw [upm_n (by omega)]; exact h7.2.2 u hu'
        · rw [upm_n (by omega)] at hh
          rw [upm_n (by omega), upm_n (by omega)]; exact h8 j u hj hu' hH hp hh hl'
        · rw [upm_n (by omega), tn 147 (by omega) (by omega)]; exact (h9 u hu' hl').1 hH
        · rw [upm_n (by omega), tn 147 (by omega) (by omega)]; exact ((h9 u hu' hl').2 hH).1 l c' a1 a2 a3 a4
        · rw [upm_n (by omega), tn 148 (by omega) (by omega)]; exact ((h9 u hu' hl').2 hH).2 a
        · refine ⟨?_, ?_, ?_, ?_⟩
          · rw [upm_n (by omega)]
          · rw [upm_s, upd_a, if_neg (by omega)]
          · rw [tn 152 (by omega) (by omega)]
          · rw [tn 150 (by omega) (by omega)]
    · rw [q5, if_neg (nI_ne_m1 (by omega)), if_neg (nI_ne_m1 (by omega)), if_neg (nI_ge0 (by omega))]
      simp (disch := omega) only [obs, bd, jn, bn2, un2, bn3, un3, bns, nI_1, nI_clamp, gN, gN0, gN1, gN2, gN3, nI_leI, nI_ltI, nI_eq, li_le, li_lt, le_li, lt_li, eq_li, li_eq, li_mul, mul_li, add_li, nI_add, m_has, c_has, hI_0, bI_0]
      exact ⟨_, σ, τ, rfl, by rw [((hLE.2 c).1 l cc q1 q3 q2 q4)], hR, KP_rf⟩
  · rw [c, if_pos rfl, if_neg (by decide), if_pos rfl]
    rw [show Int32.toNatClampNeg 3 = 3 from rfl]
    have F1 : FrM τ0 (upm τ 150 (upd (τ 150) 3 (τ 150 3 + 1))) := h2.up (by simp)
    have ht1 := SM_fr F1 hsm
    obtain ⟨r, e, n, n1, rfl, n2⟩ := q_const (σ := σ) hw hs.1.2.1.2.1 ht1.1 ht1.2.1 hv cr
    rw [e]
    simp (disch := omega) only [obs, bd, jn, bn2, un2, bn3, un3, bns, nI_1, nI_clamp, gN, gN0, gN1, gN2, gN3, nI_leI, nI_ltI, nI_eq, li_le, li_lt, le_li, lt_li, eq_li, li_eq, li_mul, mul_li, add_li, nI_add, m_has, c_has, hI_0, bI_0]
    refine ⟨_, _, _, rfl, ?_, ⟨h1.up (by simp [SC]), F1, ?_, ?_, h5, ⟨?_, ?_, ?_⟩, ⟨fun j hj => ?_, ?_, fun u hu' => ?_⟩, fun j u hj hu' hH hp hh hl' => ?_, fun u hu' hl' => ⟨fun hH => ?_, fun hH => ⟨fun l c' a1 a2 a3 a4 => ?_, fun a => ?_⟩⟩⟩, ?_⟩
    · rw [n2, upm_n (by omega)]
    · rw [upm_s, upd_a, if_neg (by omega)]; exact h3
    · rw [upm_n (by omega)]; exact h4
    · rw [upm_s, upd_a, if_neg (by omega), upm_s, upd_a, if_neg (by omega)]; exact h6.1
    · rw [upm_s, upd_a, if_neg (by omega), upm_s, upd_a, if_neg (by omega)]; exact h6.2.1
    · rw [upm_s, upd_a, if_pos rfl, upm_s, upd_a, if_pos rfl, h6.2.2]
    · rw [upm_n (by omega), upm_n (by omega)]; exact h7.1 j hj
    · rw [upm_s, upd_a, if_neg (by omega), upm_n (by omega)]; exact h7.2.1
    · rw [upm_n (by omega)]; exact h7.2.2 u hu'
    · rw [upm_n (by omega)] at hh
      rw [upm_n (by omega), upm_n (by omega)]; exact h8 j u hj hu' hH hp hh hl'
    · rw [upm_n (by omega), upm_n (by omega)]; exact (h9 u hu' hl').1 hH
    · rw [upm_n (by omega), upm_n (by omega)]; exact ((h9 u hu' hl').2 hH).1 l c' a1 a2 a3 a4
    · rw [upm_n (by omega), upm_n (by omega)]; exact ((h9 u hu' hl').2 hH).2 a
    · refine ⟨?_, ?_, ?_, ?_⟩
      · rw [upm_n (by omega)]
      · rw [upm_s, upd_a, if_neg (by omega)]
      · rw [upm_n (by omega)]
      · rw [upm_s, upd_a, if_neg (by omega)]
