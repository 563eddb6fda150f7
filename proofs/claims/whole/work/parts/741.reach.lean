/-! what can be reached -/
def wI (h : Nat) : Int32 := if h < 8 then nI h else -1
def wB (h : Nat) : Int32 := if h < 8 then b1 h ^^^ (-1) else -1
theorem hb_wB {h t : Nat} (ht : t < 8) : hb (wB h) t = !decide (t = h) := by
  unfold wB
  by_cases c : h < 8
  · rw [if_pos c, hb_not (by omega), hb_b1 (by omega)]
    have : decide (h = t) = decide (t = h) := by simp [eq_comm]
    rw [this]
  · rw [if_neg c, hb_m1 t (by omega), decide_eq_false (by omega)]
    rfl
theorem wI_eq {h t : Nat} (hh : h ≤ 8) (ht : t < 8) : nI t = wI h ↔ t = h := by
  unfold wI
  by_cases c : h < 8
  · rw [if_pos c]; exact nI_eq (by omega) (by omega)
  · rw [if_neg c]
    exact ⟨fun e => absurd e (nI_ne_m1 (by omega)), fun e => by omega⟩
theorem gt_lt {P : Pg} (hw : WP P) {b t : Nat} (hb' : b < 8) (h : gt P b t = true) : t < P_n P := by
  obtain ⟨-, -, -, -, w2, w3, -⟩ := hw
  unfold gt at h
  simp only [Bool.or_eq_true, Bool.and_eq_true, decide_eq_true_eq] at h
  rcases h with ⟨h1, rfl⟩ | ⟨h1, rfl⟩
  · exact w2 b hb' h1
  · exact w3 b hb' h1
theorem lo_sc {P : Pg} (hw : WP P) {b : Nat} (hb' : b < 8) : lo (P_n P) (sc P b) := fun i hi => by
  rw [hb_sc hw hb']
  cases e : gt P b i
  · rfl
  · have := gt_lt hw hb' e
    omega
def rs (P : Pg) (w : Int32) (b : Nat) (s : Int32) : Int32 := if hb s b = true then s ||| (sc P b &&& w) else s
def rp (P : Pg) (w : Int32) (s : Int32) : Int32 := itr (rs P w) s (P_n P)
def RE (P : Pg) (h : Nat) : Int32 := itr (fun _ => rp P (wB h)) (1 &&& wB h) (P_n P)
theorem rs_up {P : Pg} {w : Int32} (b : Nat) (s : Int32) : sb s (rs P w b s) := by
  unfold rs
  split
  · exact sb_or _ _
  · exact sb_rf _
theorem rp_up {P : Pg} {w : Int32} (s : Int32) : sb s (rp P w s) := itr_up (a := s) rs_up (i := 0) _ (Nat.zero_le _)
theorem rs_lo {P : Pg} (hw : WP P) {w s : Int32} {b : Nat} (hb' : b < 8) (h : lo (P_n P) s) : lo (P_n P) (rs P w b s) := by
  unfold rs
  split
  · exact lo_or h (lo_andL (lo_sc hw hb'))
  · exact h
theorem rp_lo {P : Pg} (hw : WP P) {w s : Int32} (h : lo (P_n P) s) : lo (P_n P) (rp P w s) :=
  itr_inv (fun _ x => lo (P_n P) x) h (fun k x hk hx => rs_lo hw (by have := hw.1.2; omega) hx) _ (Nat.le_refl _)
theorem lo_1 {P : Pg} (hw : WP P) {w : Int32} : lo (P_n P) (1 &&& w) := lo_andL (fun i hi => by rw [hb_1]; exact decide_eq_false (by have := hw.1.1; omega))
theorem RE_lo {P : Pg} (hw : WP P) {h : Nat} : lo (P_n P) (RE P h) :=
  itr_inv (fun _ x => lo (P_n P) x) (n := P_n P) (lo_1 hw) (fun k x hk hx => rp_lo hw hx) _ (Nat.le_refl _)
theorem RE_fix {P : Pg} (hw : WP P) {h : Nat} : rp P (wB h) (RE P h) = RE P h := itr_fix (lo_1 hw) (fun s hs => rp_lo hw hs) rp_up
/-- closed -/
theorem RE_cl {P : Pg} (hw : WP P) {h b t : Nat} (hb' : hb (RE P h) b = true) (hg : gt P b t = true) (ht : t ≠ h) : hb (RE P h) t = true := by
  have hbn : b < P_n P := by
    rcases Nat.lt_or_ge b (P_n P) with c | c
    · exact c
    · rw [RE_lo hw b c] at hb'; cases hb'
  have hn := hw.1.2
  have htn := gt_lt hw (by omega) hg
  have e := (itr_st (n := P_n P) (rs_up (P := P) (w := wB h)) (RE_fix hw) hbn).2
  rw [← e]
  unfold rs
  rw [if_pos hb', hb_or, hb_and, hb_sc hw (by omega), hg, hb_wB (by omega), decide_eq_false ht]
  simp
theorem RE_0 {P : Pg} (hw : WP P) {h : Nat} (hh : h ≠ 0) : hb (RE P h) 0 = true := by
  refine itr_up (a := 1 &&& wB h) (fun _ => rp_up) (i := 0) _ (Nat.zero_le _) 0 ?_
  show hb (1 &&& wB h) 0 = true
  rw [hb_and, hb_1, hb_wB (by omega)]
  simp [Ne.symm hh]
theorem RE_le {P : Pg} (hw : WP P) {h : Nat} (S : Nat → Prop) (h0 : h ≠ 0 → S 0) (hs : ∀ b t, b < P_n P → S b → gt P b t = true → t ≠ h → S t) : ∀ i, hb (RE P h) i = true → S i := by
  have hn := hw.1.2
  refine itr_inv (fun _ x => ∀ i, hb x i = true → S i) (n := P_n P) ?_ ?_ _ (Nat.le_refl _)
  · intro i q
    rw [hb_and, hb_1, Bool.and_eq_true] at q
    have e : i = 0 := by have := q.1; simpa using this
    subst e
    have q2 := q.2
    rw [hb_wB (by omega)] at q2
    exact h0 (fun e => by subst e; simp at q2)
  · intro k x hk hx
    refine itr_inv (fun _ x => ∀ i, hb x i = true → S i) (n := P_n P) hx ?_ _ (Nat.le_refl _)
    intro b s hb' hS i q
    unfold rs at q
    split at q
    · next e =>
      rw [hb_or, hb_and, hb_sc hw (by omega)] at q
      simp only [Bool.or_eq_true, Bool.and_eq_true] at q
      rcases q with q | ⟨q1, q2⟩
      · exact hS i q
      · have := gt_lt hw (by omega) q1
        rw [hb_wB (by omega)] at q2
        exact hs b i hb' (hS b e) q1 (by simpa using q2)
    · exact hS i q
theorem RE_h {P : Pg} (hw : WP P) {h : Nat} : hb (RE P h) h = false := by
  cases e : hb (RE P h) h
  · rfl
  · exact absurd rfl (RE_le hw (fun i => i ≠ h) (fun q => Ne.symm q) (fun b t _ _ _ q => q) h e)
/-- the class -/
theorem c_reach {σ : Mm} {P : Pg} (hw : WP P) (hc : CP σ 1 4 P) {h : Nat} (hh : h ≤ 8) : fX2_reachableWithout σ (wI h) = some (RE P h) := by
  have hn := hw.1.2
  have c1 := hc.1
  have e1 : ∀ x s, qX2_reachableWithout_37 σ (wB h) x FU (s, 0) = some (rp P (wB h) s) := by
    intro x s
    refine lp_itr (rs P (wB h)) (P_n P) some ?_ ?_ (fu (by omega))
    · intro k hk s rec
      show gX2_reachableWithout_37 σ (wB h) x rec s (nI k) = rec (rs P (wB h) k s, nI (k + 1))
      unfold gX2_reachableWithout_37 rs
      simp (disch := omega) only [obs, bd, jn, bn2, un2, bn3, un3, bns, nI_1, nI_clamp, gN, gN0, gN1, gN2, gN3, nI_leI, nI_ltI, nI_eq, li_le, li_lt, le_li, lt_li, eq_li, li_eq, li_mul, mul_li, add_li, nI_add, m_has, c_has, hI_0, bI_0, c1, c_successors hw hc, if_neg]
      cases hb s k <;> simp
    · intro s rec
      show gX2_reachableWithout_37 σ (wB h) x rec s (nI (P_n P)) = _
      unfold gX2_reachableWithout_37
      simp (disch := omega) only [obs, bd, jn, bn2, un2, bn3, un3, bns, nI_1, nI_clamp, gN, gN0, gN1, gN2, gN3, nI_leI, nI_ltI, nI_eq, li_le, li_lt, le_li, lt_li, eq_li, li_eq, li_mul, mul_li, add_li, nI_add, m_has, c_has, hI_0, bI_0, c1, if_pos]
  have e2 : ∀ s, qX2_reachableWithout_22 σ (wB h) FU (s, 0) = some (itr (fun _ => rp P (wB h)) s (P_n P)) := by
    intro s
    refine lp_itr (fun _ => rp P (wB h)) (P_n P) some ?_ ?_ (fu (by omega))
    · intro k hk s rec
      show gX2_reachableWithout_22 σ (wB h) rec s (nI k) = rec (rp P (wB h) s, nI (k + 1))
      unfold gX2_reachableWithout_22
      simp (disch := omega) only [obs, bd, jn, bn2, un2, bn3, un3, bns, nI_1, nI_clamp, gN, gN0, gN1, gN2, gN3, nI_leI, nI_ltI, nI_eq, li_le, li_lt, le_li, lt_li, eq_li, li_eq, li_mul, mul_li, add_li, nI_add, m_has, c_has, hI_0, bI_0, c1, e1, if_neg]
    · intro s rec
      show gX2_reachableWithout_22 σ (wB h) rec s (nI (P_n P)) = _
      unfold gX2_reachableWithout_22
      simp (disch := omega) only [obs, bd, jn, bn2, un2, bn3, un3, bns, nI_1, nI_clamp, gN, gN0, gN1, gN2, gN3, nI_leI, nI_ltI, nI_eq, li_le, li_lt, le_li, lt_li, eq_li, li_eq, li_mul, mul_li, add_li, nI_add, m_has, c_has, hI_0, bI_0, c1, if_pos]
  unfold fX2_reachableWithout
  simp only [jn, bd]
  by_cases c : h < 8
  · have q1 : wI h = nI h := if_pos c
    have q2 : wB h = b1 h ^^^ (-1) := if_pos c
    rw [q1, if_neg (nI_ne_m1 (by omega))]
    show (qX2_reachableWithout_22 σ (b1 h ^^^ (-1)) FU (1 &&& (b1 h ^^^ (-1)), 0)).bind _ = _
    rw [← q2, e2]
    rfl
  · have q1 : wI h = -1 := if_neg c
    have q2 : wB h = -1 := if_neg c
    rw [q1, if_pos rfl]
    show (qX2_reachableWithout_22 σ (-1) FU (1 &&& (-1), 0)).bind _ = _
    rw [← q2, e2]
    rfl
/-- the model -/
def rm (P : Pg) (h b t : Nat) (s : Int32) : Int32 := if hb s b = true ∧ gt P b t = true ∧ t ≠ h then s ||| b1 t else s
theorem rm_rs {P : Pg} (hw : WP P) {h b : Nat} (hb' : b < 8) (s : Int32) : itr (rm P h b) s (P_n P) = rs P (wB h) b s := by
  have hn := hw.1.2
  unfold rs
  cases e : hb s b
  · rw [if_neg (by decide)]
    have key : ∀ k, k ≤ P_n P → itr (rm P h b) s k = s := itr_inv (fun _ x => x = s) rfl (fun k x _ hx => by
      subst hx
      unfold rm
      rw [if_neg (by rw [e]; simp)])
    exact key _ (Nat.le_refl _)
  · rw [if_pos rfl]
    have key : ∀ k, k ≤ P_n P → itr (rm P h b) s k = s ||| orF (fun t => if gt P b t = true ∧ t ≠ h then b1 t else 0) k := itr_inv (fun k x => x = s ||| orF (fun t => if gt P b t = true ∧ t ≠ h then b1 t else 0) k) (orB0 s).symm (fun k x _ hx => by
      have q : hb x b = true := by rw [hx, hb_or, e]; rfl
      unfold rm
      simp only [orF]
      by_cases c : gt P b k = true ∧ k ≠ h
      · rw [if_pos ⟨q, c⟩, if_pos c, hx, or_a]
      · rw [if_neg (fun q2 => c q2.2), if_neg c, orB0, hx])
    rw [key _ (Nat.le_refl _)]
    congr 1
    apply hb_ext
    intro i _
    rw [hb_orF, hb_and, hb_sc hw hb']
    apply Bool.eq_iff_iff.mpr
    rw [anyF_iff, Bool.and_eq_true]
    constructor
    · rintro ⟨k, h1, h2⟩
      split at h2
      · next c =>
        rw [hb_b1 (by omega)] at h2
        have : k = i := by simpa using h2
        subst this
        rw [hb_wB (by omega)]
        exact ⟨c.1, by simp [c.2]⟩
      · rw [hb_0] at h2; cases h2
    · rintro ⟨h1, h2⟩
      have l := gt_lt hw hb' h1
      rw [hb_wB (by omega)] at h2
      refine ⟨i, l, ?_⟩
      rw [if_pos ⟨h1, by simpa using h2⟩, hb_b1 (by omega)]
      simp
theorem m_reach {σ : Mm} {P : Pg} (hw : WP P) (hm : MP σ 124 1 P) {h : Nat} (hh : h ≤ 8) : fX10_reached σ (wI h) = some (RE P h) := by
  have hn := hw.1.2
  have m1 := hm.1
  have e0 : ∀ x b s, b < 8 → qX10_reached_35 σ (wI h) x (nI b) FU (s, 0) = some (rs P (wB h) b s) := by
    intro x b s hb'
    rw [← rm_rs hw hb']
    refine lp_itr (rm P h b) (P_n P) some ?_ ?_ (fu (by omega))
    · intro k hk s rec
      show gX10_reached_35 σ (wI h) x (nI b) rec s (nI k) = rec (rm P h b k s, nI (k + 1))
      unfold gX10_reached_35 rm
      simp (disch := omega) only [obs, bd, jn, bn2, un2, bn3, un3, bns, nI_1, nI_clamp, gN, gN0, gN1, gN2, gN3, nI_leI, nI_ltI, nI_eq, li_le, li_lt, le_li, lt_li, eq_li, li_eq, li_mul, mul_li, add_li, nI_add, m_has, c_has, hI_0, bI_0, m1, m_goesTo hw hm, wI_eq, if_neg]
      cases hb s b
      · simp
      · cases gt P b k
        · simp
        · by_cases c : k = h
          · simp [c]
          · simp [c, b1]
    · intro s rec
      show gX10_reached_35 σ (wI h) x (nI b) rec s (nI (P_n P)) = _
      unfold gX10_reached_35
      simp (disch := omega) only [obs, bd, jn, bn2, un2, bn3, un3, bns, nI_1, nI_clamp, gN, gN0, gN1, gN2, gN3, nI_leI, nI_ltI, nI_eq, li_le, li_lt, le_li, lt_li, eq_li, li_eq, li_mul, mul_li, add_li, nI_add, m_has, c_has, hI_0, bI_0, m1, if_pos]
  have e1 : ∀ x s, qX10_reached_23 σ (wI h) x FU (s, 0) = some (rp P (wB h) s) := by
    intro x s
    refine lp_itr (rs P (wB h)) (P_n P) some ?_ ?_ (fu (by omega))
    · intro k hk s rec
      show gX10_reached_23 σ (wI h) x rec s (nI k) = rec (rs P (wB h) k s, nI (k + 1))
      unfold gX10_reached_23
      simp (disch := omega) only [obs, bd, jn, bn2, un2, bn3, un3, bns, nI_1, nI_clamp, gN, gN0, gN1, gN2, gN3, nI_leI, nI_ltI, nI_eq, li_le, li_lt, le_li, lt_li, eq_li, li_eq, li_mul, mul_li, add_li, nI_add, m_has, c_has, hI_0, bI_0, m1, e0, if_neg]
    · intro s rec
      show gX10_reached_23 σ (wI h) x rec s (nI (P_n P)) = _
      unfold gX10_reached_23
      simp (disch := omega) only [obs, bd, jn, bn2, un2, bn3, un3, bns, nI_1, nI_clamp, gN, gN0, gN1, gN2, gN3, nI_leI, nI_ltI, nI_eq, li_le, li_lt, le_li, lt_li, eq_li, li_eq, li_mul, mul_li, add_li, nI_add, m_has, c_has, hI_0, bI_0, m1, if_pos]
  have e2 : ∀ s, qX10_reached_12 σ (wI h) FU (s, 0) = some (itr (fun _ => rp P (wB h)) s (P_n P)) := by
    intro s
    refine lp_itr (fun _ => rp P (wB h)) (P_n P) some ?_ ?_ (fu (by omega))
    · intro k hk s rec
      show gX10_reached_12 σ (wI h) rec s (nI k) = rec (rp P (wB h) s, nI (k + 1))
      unfold gX10_reached_12
      simp (disch := omega) only [obs, bd, jn, bn2, un2, bn3, un3, bns, nI_1, nI_clamp, gN, gN0, gN1, gN2, gN3, nI_leI, nI_ltI, nI_eq, li_le, li_lt, le_li, lt_li, eq_li, li_eq, li_mul, mul_li, add_li, nI_add, m_has, c_has, hI_0, bI_0, m1, e1, if_neg]
    · intro s rec
      show gX10_reached_12 σ (wI h) rec s (nI (P_n P)) = _
      unfold gX10_reached_12
      simp (disch := omega) only [obs, bd, jn, bn2, un2, bn3, un3, bns, nI_1, nI_clamp, gN, gN0, gN1, gN2, gN3, nI_leI, nI_ltI, nI_eq, li_le, li_lt, le_li, lt_li, eq_li, li_eq, li_mul, mul_li, add_li, nI_add, m_has, c_has, hI_0, bI_0, m1, if_pos]
  have e3 : (if wI h = 0 then (0 : Int32) else 1) = 1 &&& wB h := by
    have h0 : (0 : Int32) = wI h ↔ 0 = h := wI_eq (h := h) (t := 0) hh (by omega)
    apply hb_ext
    intro i _
    rw [hb_and, hb_1]
    by_cases c : i = 0
    · subst c
      rw [hb_wB (by omega)]
      by_cases c2 : 0 = h
      · rw [if_pos (h0.mpr c2).symm, hb_0]
        simp [c2]
      · rw [if_neg (fun q => c2 (h0.mp q.symm)), hb_1]
        simp [c2]
    · rw [decide_eq_false c]
      split
      · rw [hb_0]; rfl
      · rw [hb_1, decide_eq_false c]; rfl
  unfold fX10_reached
  simp only [jn]
  have e4 : (if wI h = 0 then (qX10_reached_12 σ (wI h) FU (0, 0)).bind (fun v3 => some v3) else (qX10_reached_12 σ (wI h) FU (1, 0)).bind (fun v3 => some v3)) = (qX10_reached_12 σ (wI h) FU (if wI h = 0 then 0 else 1, 0)).bind (fun v3 => some v3) := by split <;> rfl
  rw [e4, e3, e2]
  rfl
