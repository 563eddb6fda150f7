/-! the model's liveness -/
theorem fu {n : Nat} (h : n < 2000) : n < FU := h
theorem orB0 (x : Int32) : x ||| 0 = x := hb_ext (fun i _ => by rw [hb_or, hb_0]; simp)
theorem m_liveBehind {σ : Mm} {P : Pg} (hw : WP P) (hm : MP σ 124 1 P) {b : Nat} (hb' : b < 8) : fX10_liveBehind σ (nI b) = some (orF (fun t => if gt P b t then σ 135 t else 0) (P_n P)) := by
  have hn := hw.1.2
  have m1 := hm.1
  have e : qX10_liveBehind_4 σ (nI b) FU (0, 0) = some (orF (fun t => if gt P b t then σ 135 t else 0) (P_n P)) := by
    refine lp_for (fun k => (orF (fun t => if gt P b t then σ 135 t else 0) k, nI k)) (P_n P) ?_ ?_ (fu (by omega))
    · intro k hk rec
      show gX10_liveBehind_4 σ (nI b) rec (orF _ k) (nI k) = rec (orF _ k ||| _, nI (k + 1))
      unfold gX10_liveBehind_4
      simp (disch := omega) only [Option.bind_some, bd, jn, bn2, un2, bn3, un3, bns, nI_1, nI_clamp, gN, gN0, gN1, gN2, gN3, nI_leI, nI_ltI, nI_eq, li_le, li_lt, le_li, lt_li, eq_li, li_eq, li_mul, mul_li, add_li, nI_add, m_has, c_has, hI_0, bI_0, m1, m_goesTo hw hm hb', if_neg]
      cases hg : gt P b k
      · simp [orB0]
      · simp
    · intro rec
      show gX10_liveBehind_4 σ (nI b) rec (orF _ (P_n P)) (nI (P_n P)) = _
      unfold gX10_liveBehind_4
      simp (disch := omega) only [Option.bind_some, bd, jn, bn2, un2, bn3, un3, bns, nI_1, nI_clamp, gN, gN0, gN1, gN2, gN3, nI_leI, nI_ltI, nI_eq, li_le, li_lt, le_li, lt_li, eq_li, li_eq, li_mul, mul_li, add_li, nI_add, m_has, c_has, hI_0, bI_0, m1, if_pos]
  unfold fX10_liveBehind
  rw [e]
  rfl
theorem lp_fr {S R : Type} {step : (S → Option R) → S → Option R} (st : Nat → S) (N : Nat) {r : Option R} {s0 : S} (h0 : st 0 = s0) (h1 : ∀ k, k < N → ∀ rec, step rec (st k) = rec (st (k + 1))) (h2 : ∀ rec, step rec (st N) = r) {n : Nat} (hn : N < n) : lp step n s0 = r := by
  rw [← h0]
  exact lp_for st N h1 h2 hn
theorem lp_ix {S R : Type} {step : (S → Option R) → S → Option R} (I : Nat → S → Prop) (Q : R → Prop) (h : ∀ m s, I m s → (∃ r, (∀ rec, step rec s = some r) ∧ Q r) ∨ ∃ m' s', (∀ rec, step rec s = rec s') ∧ I m' s' ∧ m' < m) : ∀ n m s, I m s → m < n → ∃ r, lp step n s = some r ∧ Q r := by
  intro n
  induction n with
  | zero => intro m s _ h; omega
  | succ n ih =>
    intro m s hs hm
    rcases h m s hs with ⟨r, h1, h2⟩ | ⟨m', s', h1, h2, h3⟩
    · exact ⟨r, h1 _, h2⟩
    · obtain ⟨r, h4, h5⟩ := ih m' s' h2 (by omega)
      exact ⟨r, (h1 _).trans h4, h5⟩
theorem MP_cg {σ σ' : Mm} {P : Pg} (e1 : σ' 123 1 = σ 123 1) (e : ∀ k, 124 ≤ k → k ≤ 134 → σ' k = σ k) (h : MP σ 124 1 P) : MP σ' 124 1 P := by
  obtain ⟨a1, a2, a3, a4, a5, a6, a7, a8, a9, a10, a11, a12⟩ := h
  refine ⟨e1.trans a1, ?_, ?_, ?_, ?_, ?_, ?_, ?_, ?_, ?_, ?_, ?_⟩
  · rw [e _ (by omega) (by omega)]; exact a2
  · rw [e _ (by omega) (by omega)]; exact a3
  · rw [e _ (by omega) (by omega)]; exact a4
  · rw [e _ (by omega) (by omega)]; exact a5
  · rw [e _ (by omega) (by omega)]; exact a6
  · rw [e _ (by omega) (by omega)]; exact a7
  · rw [e _ (by omega) (by omega)]; exact a8
  · rw [e _ (by omega) (by omega)]; exact a9
  · rw [e _ (by omega) (by omega)]; exact a10
  · rw [e _ (by omega) (by omega)]; exact a11
  · rw [e _ (by omega) (by omega)]; exact a12
theorem MP.up {σ : Mm} {P : Pg} {k : Nat} {f : Nat → Int32} (h : MP σ 124 1 P) (hk : 135 ≤ k) : MP (upm σ k f) 124 1 P := MP_cg (by rw [upm_n (by omega)]) (fun j _ _ => upm_n (by omega)) h
theorem sub1 (x : Int32) : x + (-1) = x - 1 := (Int32.sub_eq_add_neg x 1).symm
theorem pred_lt {i : Nat} (h : i < 2 ^ 31) : nI i - 1 < nI i := by
  rcases Nat.eq_zero_or_pos i with e | e
  · subst e; decide
  · rw [sub_li (c := 1) e]
    exact nI_lt (show i - 1 < i by omega) h
theorem m_liveOf {σ : Mm} {P : Pg} (hw : WP P) (hm : MP σ 124 1 P) {b i : Nat} (hb' : b < 8) (hi : i ≤ P_m P b) : fX10_liveOf σ (nI b) (nI i) = some (lv P (σ 135) b i) := by
  have h8 := hw.2.1 b hb'
  have m3 := hm.2.2.1
  have m10 := hm.2.2.2.2.2.2.2.2.2.1
  have w9 := hw.2.2.2.2.2.2.2.2.1 b hb'
  have e : qX10_liveOf_22 σ (nI b) (nI i) FU (lr P (σ 135) b 0, nI (P_m P b) - 1) = some (lv P (σ 135) b i) := by
    refine lp_for (fun j => (lr P (σ 135) b j, nI (P_m P b - j) - 1)) (P_m P b - i) ?_ ?_ (fu (by omega))
    · intro j hj rec
      show gX10_liveOf_22 σ (nI b) (nI i) rec (lr P (σ 135) b j) (nI (P_m P b - j) - 1) = rec (lr P (σ 135) b (j + 1), nI (P_m P b - (j + 1)) - 1)
      have e1 : nI (P_m P b - j) - 1 = nI (P_m P b - 1 - j) := by
        rw [sub_li (c := 1) (show 1 ≤ P_m P b - j by omega)]
        congr 1
        show P_m P b - j - 1 = P_m P b - 1 - j
        omega
      have e2 : P_m P b - (j + 1) = P_m P b - 1 - j := by omega
      have l9 := w9 (P_m P b - 1 - j) (by omega)
      rw [e1, e2]
      unfold gX10_liveOf_22
      simp (disch := omega) only [Option.bind_some, bd, jn, bn2, un2, bn3, un3, bns, nI_1, nI_clamp, gN, gN0, gN1, gN2, gN3, nI_leI, nI_ltI, nI_eq, li_le, li_lt, le_li, lt_li, eq_li, li_eq, li_mul, mul_li, add_li, nI_add, m_has, c_has, hI_0, bI_0, m_usesOf hw hm hb', m10, if_neg]
      rw [sub1]
      rfl
    · intro rec
      show gX10_liveOf_22 σ (nI b) (nI i) rec (lr P (σ 135) b (P_m P b - i)) (nI (P_m P b - (P_m P b - i)) - 1) = _
      have e2 : P_m P b - (P_m P b - i) = i := by omega
      rw [e2]
      unfold gX10_liveOf_22
      rw [if_pos (pred_lt (by omega))]
      rfl
  unfold fX10_liveOf
  rw [m_liveBehind hw hm hb', m_endUse hm hw hb']
  simp (disch := omega) only [Option.bind_some, bd, jn, bn2, un2, bn3, un3, bns, nI_1, nI_clamp, gN, gN0, gN1, gN2, gN3, nI_leI, nI_ltI, nI_eq, li_le, li_lt, le_li, lt_li, eq_li, li_eq, li_mul, mul_li, add_li, nI_add, m_has, c_has, hI_0, bI_0, m3]
  show (qX10_liveOf_22 σ (nI b) (nI i) FU (lr P (σ 135) b 0, nI (P_m P b) - 1)).bind _ = _
  rw [e]
  rfl
theorem bI_or {x y : Bool} : bI x ||| bI y = bI (x || y) := by cases x <;> cases y <;> decide
/-- one pass of the model -/
def mfl (P : Pg) (L : Nat → Int32) (k : Nat) : Bool := anyF (fun j => decide (lv P (ps P (fun j => j) L j) j 0 ≠ ps P (fun j => j) L j j)) k
theorem m_pass {σ : Mm} {P : Pg} (hw : WP P) (hm : MP σ 124 1 P) : qX10_layLive_33 FU (σ, 0, 0) = some (upm σ 135 (ps P (fun j => j) (σ 135) (P_n P)), bI (mfl P (σ 135) (P_n P))) := by
  have hn := hw.1.2
  have m1 := hm.1
  refine lp_fr (fun k => (upm σ 135 (ps P (fun j => j) (σ 135) k), bI (mfl P (σ 135) k), nI k)) (P_n P) (by show (upm σ 135 (σ 135), _) = _; rw [upm_id]; rfl) ?_ ?_ (fu (by omega))
  · intro k hk rec
    show gX10_layLive_33 rec (upm σ 135 (ps P (fun j => j) (σ 135) k)) (bI (mfl P (σ 135) k)) (nI k) = _
    have hm2 : MP (upm σ 135 (ps P (fun j => j) (σ 135) k)) 124 1 P := hm.up (by omega)
    have m2 := hm2.1
    have e0 := m_liveOf hw hm2 (b := k) (i := 0) (by omega) (by omega)
    rw [upm_s] at e0
    unfold gX10_layLive_33
    rw [show (0 : Int32) = nI 0 from rfl, e0]
    simp (disch := omega) only [Option.bind_some, bd, jn, bn2, un2, bn3, un3, bns, nI_1, nI_clamp, gN, gN0, gN1, gN2, gN3, nI_leI, nI_ltI, nI_eq, li_le, li_lt, le_li, lt_li, eq_li, li_eq, li_mul, mul_li, add_li, nI_add, m_has, c_has, hI_0, bI_0, m2, if_neg, upm_s, upm_u]
    show _ = rec (upm σ 135 (upd _ k (lv P (ps P (fun j => j) (σ 135) k) k 0)), bI (mfl P (σ 135) k || _), _)
    by_cases hc : lv P (ps P (fun j => j) (σ 135) k) k 0 = ps P (fun j => j) (σ 135) k k
    · rw [if_pos hc]
      rw [show nI 0 = bI false from rfl, bI_or]
      simp [hc]
    · rw [if_neg hc]
      rw [show (1 : Int32) = bI true from rfl, bI_or]
      simp [hc]
  · intro rec
    show gX10_layLive_33 rec (upm σ 135 (ps P (fun j => j) (σ 135) (P_n P))) _ (nI (P_n P)) = _
    have m2 := (hm.up (k := 135) (f := ps P (fun j => j) (σ 135) (P_n P)) (by omega)).1
    unfold gX10_layLive_33
    simp (disch := omega) only [Option.bind_some, bd, jn, bn2, un2, bn3, un3, bns, nI_1, nI_clamp, gN, gN0, gN1, gN2, gN3, nI_leI, nI_ltI, nI_eq, li_le, li_lt, le_li, lt_li, eq_li, li_eq, li_mul, mul_li, add_li, nI_add, m_has, c_has, hI_0, bI_0, m2, if_pos]
theorem mfl_0 {P : Pg} {L : Nat → Int32} {k : Nat} (h : mfl P L k = false) : ps P (fun j => j) L k = L := by
  induction k with
  | zero => rfl
  | succ k ih =>
    unfold mfl at h ih
    simp only [anyF, Bool.or_eq_false_iff, decide_eq_false_iff_not, Decidable.not_not] at h
    have e := ih h.1
    show upd (ps P (fun j => j) L k) k (lv P (ps P (fun j => j) L k) k 0) = L
    rw [h.2, e]
    funext x
    rw [upd_a]
    split
    · next c => rw [c]
    · rfl
theorem mfl_1 {P : Pg} {L : Nat → Int32} (hl : lin P L) (he : ∀ t, t < P_n P → L t = ps P (fun j => j) L (P_n P) t) : mfl P L (P_n P) = false := by
  cases h : mfl P L (P_n P)
  · rfl
  · unfold mfl at h
    rw [anyF_iff] at h
    obtain ⟨j, hj, h2⟩ := h
    simp only [decide_eq_true_eq] at h2
    exfalso
    apply h2
    have h3 := ps_in (o := fun j => j) (fun j hj => hj) hl he (j := j + 1) (by omega) j hj
    have h4 := ps_in (o := fun j => j) (fun j hj => hj) hl he (j := j) (by omega) j hj
    rw [h4, ← h3]
    show _ = upd _ j _ j
    rw [upd_a, if_pos rfl]
def mL0 (P : Pg) (f : Nat → Int32) : Nat → Int32 := fun x => if x < P_n P then 0 else f x
def mLV (P : Pg) (f : Nat → Int32) : Nat → Int32 := fun x => if x < P_n P then LV P x else f x
theorem ps_out {P : Pg} {L : Nat → Int32} {j x : Nat} (hx : P_n P ≤ x) (hj : j ≤ P_n P) : ps P (fun j => j) L j x = L x := by
  induction j with
  | zero => rfl
  | succ j ih =>
    show upd _ j _ x = _
    rw [upd_a, if_neg (by omega)]
    exact ih (by omega)
theorem pp_out {P : Pg} {L : Nat → Int32} {k x : Nat} (hx : P_n P ≤ x) : pp P (fun j => j) L k x = L x := by
  induction k with
  | zero => rfl
  | succ k ih => exact (ps_out hx (Nat.le_refl _)).trans ih
theorem m_layLive {σ : Mm} {P : Pg} (hw : WP P) (hm : MP σ 124 1 P) : fX10_layLive σ = some (upm σ 135 (mLV P (σ 135))) := by
  have hn := hw.1.2
  have m1 := hm.1
  have e1 : qX10_layLive_2 FU (σ, 0) = some (upm σ 135 (mL0 P (σ 135))) := by
    refine lp_fr (fun k => (upm σ 135 (fun x => if x < k then 0 else σ 135 x), nI k)) (P_n P) (by simp [upm_id]; rfl) ?_ ?_ (fu (by omega))
    · intro k hk rec
      show gX10_layLive_2 rec (upm σ 135 (fun x => if x < k then 0 else σ 135 x)) (nI k) = rec (upm σ 135 (fun x => if x < k + 1 then 0 else σ 135 x), nI (k + 1))
      have m2 := (hm.up (k := 135) (f := fun x => if x < k then 0 else σ 135 x) (by omega)).1
      unfold gX10_layLive_2
      simp (disch := omega) only [Option.bind_some, bd, jn, bn2, un2, bn3, un3, bns, nI_1, nI_clamp, gN, gN0, gN1, gN2, gN3, nI_leI, nI_ltI, nI_eq, li_le, li_lt, le_li, lt_li, eq_li, li_eq, li_mul, mul_li, add_li, nI_add, m_has, c_has, hI_0, bI_0, m2, if_neg, upm_s, upm_u]
      congr 3
      funext x
      rw [upd_a]
      by_cases h1 : x = k
      · rw [if_pos h1, if_pos (by omega)]
      · rw [if_neg h1]
        by_cases h2 : x < k
        · rw [if_pos h2, if_pos (by omega)]
        · rw [if_neg h2, if_neg (by omega)]
    · intro rec
      show gX10_layLive_2 rec (upm σ 135 (fun x => if x < P_n P then 0 else σ 135 x)) (nI (P_n P)) = _
      have m2 := (hm.up (k := 135) (f := fun x => if x < P_n P then 0 else σ 135 x) (by omega)).1
      unfold gX10_layLive_2
      simp (disch := omega) only [Option.bind_some, bd, jn, bn2, un2, bn3, un3, bns, nI_1, nI_clamp, gN, gN0, gN1, gN2, gN3, nI_leI, nI_ltI, nI_eq, li_le, li_lt, le_li, lt_li, eq_li, li_eq, li_mul, mul_li, add_li, nI_add, m_has, c_has, hI_0, bI_0, m2, if_pos]
      rfl
  have l0 : lin P (mL0 P (σ 135)) := lin_0 (fun t ht => if_pos ht)
  have b0 : lbe P (mL0 P (σ 135)) := lbe_0 (fun t ht => if_pos ht)
  obtain ⟨σ', e2, e3⟩ : ∃ r, qX10_layLive_25 FU (upm σ 135 (mL0 P (σ 135)), 1) = some r ∧ r = upm σ 135 (mLV P (σ 135)) := by
    refine lp_ix (fun m (s : Mm × Int32) => ∃ k, s.1 = upm σ 135 (pp P (fun j => j) (mL0 P (σ 135)) k) ∧ ((s.2 = 0 ∧ m = 0 ∧ ∃ j, k = j + 1 ∧ pp P (fun j => j) (mL0 P (σ 135)) (j + 1) = pp P (fun j => j) (mL0 P (σ 135)) j) ∨ (s.2 = 1 ∧ k ≤ P_n P ∧ m = P_n P + 1 - k))) (fun r => r = upm σ 135 (mLV P (σ 135))) ?_ FU (P_n P + 1) _ ⟨0, rfl, Or.inr ⟨rfl, Nat.zero_le _, rfl⟩⟩ (fu (by omega))
    rintro m ⟨s1, s2⟩ ⟨k, h1, (⟨h2, -, j, rfl, h4⟩ | ⟨h2, h3, h4⟩)⟩
    · refine Or.inl ⟨s1, fun rec => ?_, ?_⟩
      · show gX10_layLive_25 rec s1 s2 = _
        unfold gX10_layLive_25
        rw [if_pos h2]
      · simp only at h1
        rw [h1, h4]
        congr 1
        funext x
        unfold mLV
        by_cases hx : x < P_n P
        · rw [if_pos hx]
          refine l_uniq (ps_cl (o := fun j => j) (fun j hj => hj) (fun b hb' => ⟨b, hb', rfl⟩) (pp_lin (fun j hj => hj) l0 j) (fun t _ => (congrFun h4 t).symm)) (pp_lbe (fun j hj => hj) b0 j) (LV_cl P) (LV_be P) hx
        · rw [if_neg hx, pp_out (by omega)]
          exact if_neg hx
    · simp only at h1 h2
      subst h1 h2
      have hm2 := hm.up (k := 135) (f := pp P (fun j => j) (mL0 P (σ 135)) k) (by omega)
      have e := m_pass hw hm2
      rw [upm_s, upm_u] at e
      have hs : ∀ rec, gX10_layLive_25 rec (upm σ 135 (pp P (fun j => j) (mL0 P (σ 135)) k)) 1 = rec (upm σ 135 (pp P (fun j => j) (mL0 P (σ 135)) (k + 1)), bI (mfl P (pp P (fun j => j) (mL0 P (σ 135)) k) (P_n P))) := by
        intro rec
        unfold gX10_layLive_25
        rw [if_neg (by decide), e]
        rfl
      cases hf : mfl P (pp P (fun j => j) (mL0 P (σ 135)) k) (P_n P)
      · rw [hf] at hs
        exact Or.inr ⟨0, _, hs, ⟨k + 1, rfl, Or.inl ⟨rfl, rfl, k, rfl, mfl_0 hf⟩⟩, by omega⟩
      · rw [hf] at hs
        refine Or.inr ⟨P_n P + 1 - (k + 1), _, hs, ⟨k + 1, rfl, Or.inr ⟨rfl, ?_, rfl⟩⟩, by omega⟩
        rcases Nat.lt_or_ge k (P_n P) with c | c
        · exact c
        · have hk : k = P_n P := by omega
          subst hk
          rw [mfl_1 (pp_lin (fun j hj => hj) l0 _) (pp_same (fun j hj => hj) l0)] at hf
          cases hf
  unfold fX10_layLive
  rw [e1]
  show (qX10_layLive_25 FU (upm σ 135 (mL0 P (σ 135)), 1)).bind _ = _
  rw [e2, e3]
  rfl
