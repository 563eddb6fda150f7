/-! costs: the model -/
def sU (P : Pg) (v : Nat) (s : Int32) : Nat := sm (fun b => if hb s b = true then P_q P b * nU P b v else 0) (P_n P)
def sD (P : Pg) (v : Nat) (s : Int32) : Nat := sm (fun b => if hb s b = true then P_q P b * nD P b v else 0) (P_n P)
theorem m_sumU {σ : Mm} {P : Pg} (hw : WP P) (hm : MP σ 124 1 P) {v : Nat} (hv : v < 12) (s : Int32) : fX10_sumOfUses σ (nI v) s = some (nI (sU P v s)) := by
  have hn := hw.1.2
  have m1 := hm.1
  have m3 := hm.2.2.1
  have m8 := hm.2.2.2.2.2.2.2.1
  have e1 : ∀ b x, b < 8 → qX10_sumOfUses_29 σ (nI v) s (nI b) FU (nI x, 0) = some (nI (x + P_q P b * nUi P b v (P_m P b))) := by
    intro b x hb'
    have h8 := hw.2.1 b hb'
    refine lp_fr (fun i => (nI (x + P_q P b * nUi P b v i), nI i)) (P_m P b) rfl ?_ ?_ (fu (by omega))
    · intro i hi rec
      show gX10_sumOfUses_29 σ (nI v) s (nI b) rec (nI (x + P_q P b * nUi P b v i)) (nI i) = rec (nI (x + P_q P b * (nUi P b v i + _)), nI (i + 1))
      unfold gX10_sumOfUses_29
      simp (disch := omega) only [obs, bd, jn, bn2, un2, bn3, un3, bns, nI_1, nI_clamp, gN, gN0, gN1, gN2, gN3, nI_leI, nI_ltI, nI_eq, li_le, li_lt, le_li, lt_li, eq_li, li_eq, li_mul, mul_li, add_li, nI_add, m_has, c_has, hI_0, bI_0, m3, m_usesOf hw hm, m8, if_neg]
      by_cases c : hb (us P b i) v = true
      · rw [if_neg (by rw [c]; decide), if_pos c, Nat.mul_add, Nat.mul_one, Nat.add_assoc]
      · rw [if_pos (by simpa using c), if_neg c, Nat.add_zero]; rfl
    · intro rec
      show gX10_sumOfUses_29 σ (nI v) s (nI b) rec _ (nI (P_m P b)) = _
      unfold gX10_sumOfUses_29
      simp (disch := omega) only [obs, bd, jn, bn2, un2, bn3, un3, bns, nI_1, nI_clamp, gN, gN0, gN1, gN2, gN3, nI_leI, nI_ltI, nI_eq, li_le, li_lt, le_li, lt_li, eq_li, li_eq, li_mul, mul_li, add_li, nI_add, m_has, c_has, hI_0, bI_0, m3, if_pos]
  have e2 : qX10_sumOfUses_5 σ (nI v) s FU (0, 0) = some (nI (sU P v s)) := by
    refine lp_fr (fun k => (nI (sm (fun b => if hb s b = true then P_q P b * nU P b v else 0) k), nI k)) (P_n P) rfl ?_ ?_ (fu (by omega))
    · intro k hk rec
      show gX10_sumOfUses_5 σ (nI v) s rec (nI (sm _ k)) (nI k) = rec (nI (sm _ k + _), nI (k + 1))
      unfold gX10_sumOfUses_5
      simp (disch := omega) only [obs, bd, jn, bn2, un2, bn3, un3, bns, nI_1, nI_clamp, gN, gN0, gN1, gN2, gN3, nI_leI, nI_ltI, nI_eq, li_le, li_lt, le_li, lt_li, eq_li, li_eq, li_mul, mul_li, add_li, nI_add, m_has, c_has, hI_0, bI_0, m1, e1, m_endUse hm, hw, m8, if_neg]
      cases hb s k
      · simp
      · simp only [Bool.true_eq_false, if_false, if_true]
        unfold nU
        cases hb (eu P k) v
        · simp
        · simp only [Bool.true_eq_false, if_false, if_true, Nat.mul_add, Nat.mul_one, Nat.add_assoc]
    · intro rec
      show gX10_sumOfUses_5 σ (nI v) s rec _ (nI (P_n P)) = _
      unfold gX10_sumOfUses_5
      simp (disch := omega) only [obs, bd, jn, bn2, un2, bn3, un3, bns, nI_1, nI_clamp, gN, gN0, gN1, gN2, gN3, nI_leI, nI_ltI, nI_eq, li_le, li_lt, le_li, lt_li, eq_li, li_eq, li_mul, mul_li, add_li, nI_add, m_has, c_has, hI_0, bI_0, m1, if_pos]
      rfl
  unfold fX10_sumOfUses
  rw [e2]
  rfl
theorem m_sumT {σ : Mm} {P : Pg} (hw : WP P) (hm : MP σ 124 1 P) {v : Nat} (hv : v < 12) (s : Int32) : fX10_sumOfTargets σ (nI v) s = some (nI (sD P v s)) := by
  have hn := hw.1.2
  have m1 := hm.1
  have m3 := hm.2.2.1
  have m8 := hm.2.2.2.2.2.2.2.1
  have m10 := hm.2.2.2.2.2.2.2.2.2.1
  have e1 : ∀ b x, b < 8 → qX10_sumOfTargets_17 σ (nI v) s (nI b) FU (nI x, 0) = some (nI (x + if hb s b = true then P_q P b * nD P b v else 0)) := by
    intro b x hb'
    have h8 := hw.2.1 b hb'
    cases c : hb s b
    · rw [if_neg (by decide), Nat.add_zero]
      show gX10_sumOfTargets_17 σ (nI v) s (nI b) (lp _ 1999) (nI x) (nI 0) = _
      unfold gX10_sumOfTargets_17
      simp (disch := omega) only [obs, bd, jn, bn2, un2, bn3, un3, bns, nI_1, nI_clamp, gN, gN0, gN1, gN2, gN3, nI_leI, nI_ltI, nI_eq, li_le, li_lt, le_li, lt_li, eq_li, li_eq, li_mul, mul_li, add_li, nI_add, m_has, c_has, hI_0, bI_0, m3, c]
      simp
    · rw [if_pos rfl]
      refine lp_fr (fun i => (nI (x + P_q P b * nDi P b v i), nI i)) (P_m P b) rfl ?_ ?_ (fu (by omega))
      · intro i hi rec
        show gX10_sumOfTargets_17 σ (nI v) s (nI b) rec (nI (x + P_q P b * nDi P b v i)) (nI i) = rec (nI (x + P_q P b * (nDi P b v i + _)), nI (i + 1))
        have ht := hw.2.2.2.2.2.2.2.2.1 b hb' i hi
        unfold gX10_sumOfTargets_17
        simp (disch := omega) only [obs, bd, jn, bn2, un2, bn3, un3, bns, nI_1, nI_clamp, gN, gN0, gN1, gN2, gN3, nI_leI, nI_ltI, nI_eq, li_le, li_lt, le_li, lt_li, eq_li, li_eq, li_mul, mul_li, add_li, nI_add, m_has, c_has, hI_0, bI_0, m3, m10, m8, if_neg, c]
        by_cases q : P_t P b i = v
        · simp only [q, decide_true, if_true, Bool.true_eq_false, if_false, Nat.mul_add, Nat.mul_one, Nat.add_assoc]
        · simp [q]
      · intro rec
        show gX10_sumOfTargets_17 σ (nI v) s (nI b) rec _ (nI (P_m P b)) = _
        unfold gX10_sumOfTargets_17
        simp (disch := omega) only [obs, bd, jn, bn2, un2, bn3, un3, bns, nI_1, nI_clamp, gN, gN0, gN1, gN2, gN3, nI_leI, nI_ltI, nI_eq, li_le, li_lt, le_li, lt_li, eq_li, li_eq, li_mul, mul_li, add_li, nI_add, m_has, c_has, hI_0, bI_0, m3, if_pos]
        rfl
  have e2 : qX10_sumOfTargets_5 σ (nI v) s FU (0, 0) = some (nI (sD P v s)) := by
    refine lp_fr (fun k => (nI (sm (fun b => if hb s b = true then P_q P b * nD P b v else 0) k), nI k)) (P_n P) rfl ?_ ?_ (fu (by omega))
    · intro k hk rec
      show gX10_sumOfTargets_5 σ (nI v) s rec (nI (sm _ k)) (nI k) = rec (nI (sm _ k + _), nI (k + 1))
      unfold gX10_sumOfTargets_5
      simp (disch := omega) only [obs, bd, jn, bn2, un2, bn3, un3, bns, nI_1, nI_clamp, gN, gN0, gN1, gN2, gN3, nI_leI, nI_ltI, nI_eq, li_le, li_lt, le_li, lt_li, eq_li, li_eq, li_mul, mul_li, add_li, nI_add, m_has, c_has, hI_0, bI_0, m1, e1, if_neg]
    · intro rec
      show gX10_sumOfTargets_5 σ (nI v) s rec _ (nI (P_n P)) = _
      unfold gX10_sumOfTargets_5
      simp (disch := omega) only [obs, bd, jn, bn2, un2, bn3, un3, bns, nI_1, nI_clamp, gN, gN0, gN1, gN2, gN3, nI_leI, nI_ltI, nI_eq, li_le, li_lt, le_li, lt_li, eq_li, li_eq, li_mul, mul_li, add_li, nI_add, m_has, c_has, hI_0, bI_0, m1, if_pos]
      rfl
  unfold fX10_sumOfTargets
  rw [e2]
  rfl
def aB (n : Nat) : Int32 := (1 <<< (nI n &&& 31)) - 1
theorem hb_aB : ∀ n, n ≤ 8 → ∀ b, b < 32 → hb (aB n) b = decide (b < n) := by decide +kernel
theorem m_all {σ : Mm} {P : Pg} (hm : MP σ 124 1 P) : fX10_all σ = some (aB (P_n P)) := by
  unfold fX10_all
  rw [hm.1]
  rfl
theorem sU_all {P : Pg} (hw : WP P) {v : Nat} : sU P v (aB (P_n P)) = rC P v := sm_cg (fun k hk => by
  have := hw.1.2
  rw [hb_aB _ hw.1.2 k (by omega), decide_eq_true hk, if_pos rfl])
theorem sD_all {P : Pg} (hw : WP P) {v : Nat} : sD P v (aB (P_n P)) = sm (fun b => P_q P b * nD P b v) (P_n P) := sm_cg (fun k hk => by
  have := hw.1.2
  rw [hb_aB _ hw.1.2 k (by omega), decide_eq_true hk, if_pos rfl])
theorem sUD {P : Pg} (hw : WP P) {v : Nat} : sU P v (aB (P_n P)) + sD P v (aB (P_n P)) = sm (fun b => P_q P b * (nU P b v + nD P b v)) (P_n P) := by
  rw [sU_all hw, sD_all hw]
  unfold rC
  rw [← sm_add]
  exact sm_cg (fun k _ => (Nat.mul_add _ _ _).symm)
/-- the model has found what is live -/
def ML (σ : Mm) (P : Pg) : Prop := ∀ t, t < P_n P → σ 135 t = LV P t
theorem m_memoryCost {σ : Mm} {P : Pg} (hw : WP P) (hm : MP σ 124 1 P) (hl : ML σ P) {v : Nat} (hv : v < 12) : fX10_memoryCost σ (nI v) = some (nI (mC P v)) := by
  have hn := hw.1.2
  have hn0 := hw.1.1
  have m8 : σ 129 (Int32.toNatClampNeg 0) = nI (P_q P 0) := hm.2.2.2.2.2.2.2.1 0 (by omega)
  have l0 : σ 135 (Int32.toNatClampNeg 0) = LV P 0 := hl 0 hn0
  unfold fX10_memoryCost mC
  simp (disch := omega) only [obs, bd, jn, bn2, un2, bn3, un3, bns, nI_1, nI_clamp, gN, gN0, gN1, gN2, gN3, nI_leI, nI_ltI, nI_eq, li_le, li_lt, le_li, lt_li, eq_li, li_eq, li_mul, mul_li, add_li, nI_add, m_has, c_has, hI_0, bI_0, m_all hm, m_sumU hw hm, m_sumT hw hm, l0, m8]
  rw [← sUD hw]
  cases hb (LV P 0) v
  · simp
  · simp
theorem mulq {q k : Nat} (h : q ≤ 9999) (hk : k ≤ 17) : q * k ≤ 169983 := Nat.le_trans (Nat.mul_le_mul h hk) (by decide)
theorem bUD {P : Pg} (hw : WP P) {v : Nat} : sm (fun b => P_q P b * (nU P b v + nD P b v)) (P_n P) ≤ P_n P * 169983 := sm_le (fun k hk => by
  have := hw.1.2
  have h1 := (hw.2.2.2.2.2.2.1 k (by omega)).2
  have h2 := @nU_le P hw k v (by omega)
  have h3 := @nD_le P hw k v (by omega)
  exact mulq h1 (by omega))
theorem bM {P : Pg} (hw : WP P) {v : Nat} : mC P v < 2 ^ 31 := by
  have h0 := @bUD P hw v
  have h1 := hw.1.2
  have h2 := (hw.2.2.2.2.2.2.1 0 (by omega)).2
  unfold mC
  split <;> omega
theorem bR {P : Pg} (hw : WP P) {v : Nat} : rC P v < 2 ^ 31 := by
  have h1 := hw.1.2
  have h0 : rC P v ≤ P_n P * 169983 := sm_le (fun k hk => by
    have h1 := (hw.2.2.2.2.2.2.1 k (by omega)).2
    have h2 := @nU_le P hw k v (by omega)
    exact mulq h1 (by omega))
  omega
theorem m_isUsed {σ : Mm} {P : Pg} (hw : WP P) (hm : MP σ 124 1 P) {v : Nat} (hv : v < 12) : fX10_isUsed σ (nI v) = some (bI (uV P v)) := by
  have hn := hw.1.2
  have h0 := @bUD P hw v
  unfold fX10_isUsed
  simp (disch := omega) only [obs, bd, jn, bn2, un2, bn3, un3, bns, nI_1, nI_clamp, gN, gN0, gN1, gN2, gN3, nI_leI, nI_ltI, nI_eq, li_le, li_lt, le_li, lt_li, eq_li, li_eq, li_mul, mul_li, add_li, nI_add, m_has, c_has, hI_0, bI_0, m_all hm, m_sumU hw hm, m_sumT hw hm]
  rw [sUD hw]
  simp (disch := omega) only [obs, bd, jn, bn2, un2, bn3, un3, bns, nI_1, nI_clamp, gN, gN0, gN1, gN2, gN3, nI_leI, nI_ltI, nI_eq, li_le, li_lt, le_li, lt_li, eq_li, li_eq, li_mul, mul_li, add_li, nI_add, m_has, c_has, hI_0, bI_0, Nat.le_zero]
  have key : sm (fun b => P_q P b * (nU P b v + nD P b v)) (P_n P) = 0 ↔ uV P v = false := by
    rw [sm_0]
    unfold uV
    constructor
    · intro h
      cases e : anyF (fun b => decide (nU P b v ≠ 0) || decide (nD P b v ≠ 0)) (P_n P)
      · rfl
      · obtain ⟨k, hk, q⟩ := anyF_iff.mp e
        have h1 := h k hk
        have h2 := (hw.2.2.2.2.2.2.1 k (by omega)).1
        rcases Nat.mul_eq_zero.mp h1 with c | c
        · omega
        · have c1 : nU P k v = 0 := by omega
          have c2 : nD P k v = 0 := by omega
          simp [c1, c2] at q
    · intro h k hk
      have : ¬ (decide (nU P k v ≠ 0) || decide (nD P k v ≠ 0)) = true := fun q => by
        rw [anyF_iff.mpr ⟨k, hk, q⟩] at h; cases h
      have c1 : nU P k v = 0 := by
        apply Classical.byContradiction
        intro q
        exact this (by simp [q])
      have c2 : nD P k v = 0 := by
        apply Classical.byContradiction
        intro q
        exact this (by simp [q])
      rw [c1, c2]
      rfl
  by_cases c : uV P v = false
  · rw [if_pos (key.mpr c), c]; rfl
  · rw [if_neg (fun q => c (key.mp q)), show uV P v = true by simpa using c]; rfl
/-! settings and presence in a set of blocks -/
def tI (P : Pg) (s : Int32) : Int32 := orF (fun b => if hb s b = true then orF (fun i => b1 (P_t P b i)) (P_m P b) else 0) (P_n P)
theorem hb_ts {P : Pg} (hw : WP P) {b v : Nat} (hb' : b < 8) : ∀ m, m ≤ P_m P b → hb (orF (fun i => b1 (P_t P b i)) m) v = decide (nDi P b v m ≠ 0) := by
  intro m hm
  rw [hb_orF]
  apply Bool.eq_iff_iff.mpr
  rw [anyF_iff, decide_eq_true_eq]
  unfold nDi
  rw [ne_eq, cnt_0]
  constructor
  · rintro ⟨k, h1, h2⟩ q
    have := hw.2.2.2.2.2.2.2.2.1 b hb' k (by omega)
    rw [hb_b1 (by omega)] at h2
    have h3 := q k h1
    rw [h2] at h3
    cases h3
  · intro q
    apply Classical.byContradiction
    intro r
    apply q
    intro k hk
    cases e : decide (P_t P b k = v)
    · rfl
    · exfalso
      apply r
      have := hw.2.2.2.2.2.2.2.2.1 b hb' k (by omega)
      exact ⟨k, hk, by rw [hb_b1 (by omega)]; exact e⟩
theorem ts_mD {P : Pg} (hw : WP P) {b : Nat} (hb' : b < 8) : orF (fun i => b1 (P_t P b i)) (P_m P b) = mD P b := by
  apply hb_ext
  intro v _
  rw [hb_ts hw hb' _ (Nat.le_refl _)]
  unfold mD
  rw [hb_mk (by omega)]
  rcases Nat.lt_or_ge v 12 with c | c
  · rw [decide_eq_true c]; simp only [Bool.true_and]; rfl
  · rw [decide_eq_false (show ¬ v < 12 by omega), Bool.false_and]
    apply decide_eq_false
    intro q
    apply q
    unfold nDi
    rw [cnt_0]
    intro k hk
    have := hw.2.2.2.2.2.2.2.2.1 b hb' k hk
    exact decide_eq_false (by omega)
theorem tI_eq {P : Pg} (hw : WP P) {s : Int32} : tI P s = orF (fun b => if hb s b = true then mD P b else 0) (P_n P) := orF_cg (fun b hb' => by
  have := hw.1.2
  rw [ts_mD hw (by omega)])
theorem m_targetsIn {σ : Mm} {P : Pg} (hw : WP P) (hm : MP σ 124 1 P) (s : Int32) : fX10_targetsIn σ s = some (tI P s) := by
  have hn := hw.1.2
  have m1 := hm.1
  have m3 := hm.2.2.1
  have m10 := hm.2.2.2.2.2.2.2.2.2.1
  have e1 : ∀ b x, b < 8 → qX10_targetsIn_15 σ s (nI b) FU (x, 0) = some (x ||| if hb s b = true then orF (fun i => b1 (P_t P b i)) (P_m P b) else 0) := by
    intro b x hb'
    have h8 := hw.2.1 b hb'
    cases c : hb s b
    · rw [if_neg (by decide), orB0]
      show gX10_targetsIn_15 σ s (nI b) (lp _ 1999) x (nI 0) = _
      unfold gX10_targetsIn_15
      simp (disch := omega) only [obs, bd, jn, bn2, un2, bn3, un3, bns, nI_1, nI_clamp, gN, gN0, gN1, gN2, gN3, nI_leI, nI_ltI, nI_eq, li_le, li_lt, le_li, lt_li, eq_li, li_eq, li_mul, mul_li, add_li, nI_add, m_has, c_has, hI_0, bI_0, m3, c]
      simp
    · rw [if_pos rfl]
      refine lp_fr (fun i => (x ||| orF (fun i => b1 (P_t P b i)) i, nI i)) (P_m P b) (by show (x ||| 0, _) = _; rw [orB0]; rfl) ?_ ?_ (fu (by omega))
      · intro i hi rec
        show gX10_targetsIn_15 σ s (nI b) rec (x ||| orF (fun i => b1 (P_t P b i)) i) (nI i) = rec (x ||| (orF (fun i => b1 (P_t P b i)) i ||| b1 (P_t P b i)), nI (i + 1))
        unfold gX10_targetsIn_15
        simp (disch := omega) only [obs, bd, jn, bn2, un2, bn3, un3, bns, nI_1, nI_clamp, gN, gN0, gN1, gN2, gN3, nI_leI, nI_ltI, nI_eq, li_le, li_lt, le_li, lt_li, eq_li, li_eq, li_mul, mul_li, add_li, nI_add, m_has, c_has, hI_0, bI_0, m3, m10, if_neg, c]
        rw [← or_a]
        simp [b1]
      · intro rec
        show gX10_targetsIn_15 σ s (nI b) rec _ (nI (P_m P b)) = _
        unfold gX10_targetsIn_15
        simp (disch := omega) only [obs, bd, jn, bn2, un2, bn3, un3, bns, nI_1, nI_clamp, gN, gN0, gN1, gN2, gN3, nI_leI, nI_ltI, nI_eq, li_le, li_lt, le_li, lt_li, eq_li, li_eq, li_mul, mul_li, add_li, nI_add, m_has, c_has, hI_0, bI_0, m3, if_pos]
  have e2 : qX10_targetsIn_4 σ s FU (0, 0) = some (tI P s) := by
    refine lp_fr (fun k => (orF (fun b => if hb s b = true then orF (fun i => b1 (P_t P b i)) (P_m P b) else 0) k, nI k)) (P_n P) rfl ?_ ?_ (fu (by omega))
    · intro k hk rec
      show gX10_targetsIn_4 σ s rec (orF _ k) (nI k) = rec (orF _ k ||| _, nI (k + 1))
      unfold gX10_targetsIn_4
      simp (disch := omega) only [obs, bd, jn, bn2, un2, bn3, un3, bns, nI_1, nI_clamp, gN, gN0, gN1, gN2, gN3, nI_leI, nI_ltI, nI_eq, li_le, li_lt, le_li, lt_li, eq_li, li_eq, li_mul, mul_li, add_li, nI_add, m_has, c_has, hI_0, bI_0, m1, e1, if_neg]
    · intro rec
      show gX10_targetsIn_4 σ s rec _ (nI (P_n P)) = _
      unfold gX10_targetsIn_4
      simp (disch := omega) only [obs, bd, jn, bn2, un2, bn3, un3, bns, nI_1, nI_clamp, gN, gN0, gN1, gN2, gN3, nI_leI, nI_ltI, nI_eq, li_le, li_lt, le_li, lt_li, eq_li, li_eq, li_mul, mul_li, add_li, nI_add, m_has, c_has, hI_0, bI_0, m1, if_pos]
      rfl
  unfold fX10_targetsIn
  rw [e2]
  rfl
def pI (P : Pg) (s : Int32) : Int32 := orF (fun b => if hb s b = true then LV P b ||| (mU P b ||| mD P b) else 0) (P_n P)
theorem us_mU {P : Pg} (hw : WP P) {b : Nat} (hb' : b < 8) : eu P b ||| orF (us P b) (P_m P b) = mU P b := by
  refine lo_ext (m := 12) (lo_or (lo_eu hw hb') (lo_orF (fun i hi => lo_us hw hb' hi))) (lo_mk (by omega)) (fun v hv => ?_)
  unfold mU
  rw [hb_mk (by omega), decide_eq_true hv, Bool.true_and, hb_or, hb_orF]
  unfold nU nUi
  cases e : hb (eu P b) v
  · rw [if_neg (by decide), Nat.add_zero, Bool.false_or]
    apply Bool.eq_iff_iff.mpr
    rw [anyF_iff, decide_eq_true_eq, ne_eq, cnt_0]
    constructor
    · rintro ⟨k, h1, h2⟩ q
      rw [q k h1] at h2; cases h2
    · intro q
      apply Classical.byContradiction
      intro r
      apply q
      intro k hk
      cases e : hb (us P b k) v
      · rfl
      · exact absurd ⟨k, hk, e⟩ r
  · rw [if_pos rfl, Bool.true_or]
    exact (decide_eq_true (by omega)).symm
theorem m_presentIn {σ : Mm} {P : Pg} (hw : WP P) (hm : MP σ 124 1 P) (hl : ML σ P) (s : Int32) : fX10_presentIn σ s = some (pI P s) := by
  have hn := hw.1.2
  have m1 := hm.1
  have m3 := hm.2.2.1
  have e1 : ∀ b x, b < 8 → qX10_presentIn_45 σ s (nI b) FU (x, 0) = some (x ||| orF (us P b) (P_m P b)) := by
    intro b x hb'
    have h8 := hw.2.1 b hb'
    refine lp_fr (fun i => (x ||| orF (us P b) i, nI i)) (P_m P b) (by show (x ||| 0, _) = _; rw [orB0]; rfl) ?_ ?_ (fu (by omega))
    · intro i hi rec
      show gX10_presentIn_45 σ s (nI b) rec (x ||| orF (us P b) i) (nI i) = rec (x ||| (orF (us P b) i ||| us P b i), nI (i + 1))
      unfold gX10_presentIn_45
      simp (disch := omega) only [obs, bd, jn, bn2, un2, bn3, un3, bns, nI_1, nI_clamp, gN, gN0, gN1, gN2, gN3, nI_leI, nI_ltI, nI_eq, li_le, li_lt, le_li, lt_li, eq_li, li_eq, li_mul, mul_li, add_li, nI_add, m_has, c_has, hI_0, bI_0, m3, m_usesOf hw hm, if_neg]
      rw [or_a]
    · intro rec
      show gX10_presentIn_45 σ s (nI b) rec _ (nI (P_m P b)) = _
      unfold gX10_presentIn_45
      simp (disch := omega) only [obs, bd, jn, bn2, un2, bn3, un3, bns, nI_1, nI_clamp, gN, gN0, gN1, gN2, gN3, nI_leI, nI_ltI, nI_eq, li_le, li_lt, le_li, lt_li, eq_li, li_eq, li_mul, mul_li, add_li, nI_add, m_has, c_has, hI_0, bI_0, m3, if_pos]
  have e2 : ∀ x, qX10_presentIn_8 σ s FU (x, 0) = some (x ||| orF (fun b => if hb s b = true then LV P b ||| mU P b else 0) (P_n P)) := by
    intro x
    refine lp_fr (fun k => (x ||| orF (fun b => if hb s b = true then LV P b ||| mU P b else 0) k, nI k)) (P_n P) (by show (x ||| 0, _) = _; rw [orB0]; rfl) ?_ ?_ (fu (by omega))
    · intro k hk rec
      show gX10_presentIn_8 σ s rec (x ||| orF _ k) (nI k) = rec (x ||| (orF _ k ||| _), nI (k + 1))
      unfold gX10_presentIn_8
      simp (disch := omega) only [obs, bd, jn, bn2, un2, bn3, un3, bns, nI_1, nI_clamp, gN, gN0, gN1, gN2, gN3, nI_leI, nI_ltI, nI_eq, li_le, li_lt, le_li, lt_li, eq_li, li_eq, li_mul, mul_li, add_li, nI_add, m_has, c_has, hI_0, bI_0, m1, m_endUse hm, hw, e1, hl k hk, if_neg]
      cases hb s k
      · simp [orB0]
      · simp only [Bool.true_eq_false, if_false, if_true]
        rw [← us_mU hw (show k < 8 by omega)]
        simp only [or_a]
    · intro rec
      show gX10_presentIn_8 σ s rec _ (nI (P_n P)) = _
      unfold gX10_presentIn_8
      simp (disch := omega) only [obs, bd, jn, bn2, un2, bn3, un3, bns, nI_1, nI_clamp, gN, gN0, gN1, gN2, gN3, nI_leI, nI_ltI, nI_eq, li_le, li_lt, le_li, lt_li, eq_li, li_eq, li_mul, mul_li, add_li, nI_add, m_has, c_has, hI_0, bI_0, m1, if_pos]
  unfold fX10_presentIn
  rw [m_targetsIn hw hm]
  simp only [obs]
  rw [e2]
  simp only [obs]
  congr 1
  rw [tI_eq hw]
  unfold pI
  apply hb_ext
  intro i _
  rw [hb_or, hb_orF, hb_orF, hb_orF]
  apply Bool.eq_iff_iff.mpr
  rw [Bool.or_eq_true, anyF_iff, anyF_iff, anyF_iff]
  constructor
  · rintro (⟨k, h1, h2⟩ | ⟨k, h1, h2⟩) <;> refine ⟨k, h1, ?_⟩ <;> split at h2
    · next c => rw [if_pos c, hb_or, hb_or, h2]; simp
    · rw [hb_0] at h2; cases h2
    · next c =>
      rw [hb_or] at h2
      rw [if_pos c, hb_or, hb_or]
      cases q : hb (LV P k) i
      · rw [q] at h2; simp at h2; simp [h2]
      · simp
    · rw [hb_0] at h2; cases h2
  · rintro ⟨k, h1, h2⟩
    split at h2
    · next c =>
      rw [hb_or, hb_or] at h2
      cases q : hb (mD P k) i
      · right
        refine ⟨k, h1, ?_⟩
        rw [if_pos c, hb_or]
        rw [q] at h2
        simpa using h2
      · left
        exact ⟨k, h1, by rw [if_pos c]; exact q⟩
    · rw [hb_0] at h2; cases h2
