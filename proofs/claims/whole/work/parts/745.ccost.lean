/-! costs: the class -/
def AU (σ : Mm) (P : Pg) : Prop := (∀ c v, c < P_n P → v < 12 → σ 89 (c * 12 + v) = nI (nU P c v)) ∧ (∀ c v, c < P_n P → v < 12 → σ 90 (c * 12 + v) = nI (nD P c v)) ∧ (∀ v, v < 12 → σ 92 v = nI (sm (fun c => nC P c v) (P_n P))) ∧ ∀ v, v < 12 → sm (fun c => nC P c v) (P_n P) ≠ 0 → ∃ c j, c < P_n P ∧ j < P_m P c ∧ P_t P c j = v ∧ P_k P c j = 0 ∧ σ 93 v = P_a P c j
theorem AU_of {σ : Mm} {P : Pg} (hw : WP P) (h : Cu P (P_n P) 0 σ) : AU σ P := by
  have hn := hw.1.2
  obtain ⟨u1, u2, u3, u4⟩ := h
  refine ⟨fun c v hc hv => ?_, fun c v hc hv => ?_, u3, fun v hv h => ?_⟩
  · rw [u1 c v (by omega) hv, if_pos hc]
  · rw [u2 c v (by omega) hv, if_pos hc]
  · obtain ⟨c, j, g1, g2⟩ := u4 v hv h
    exact ⟨c, j, by omega, g2⟩
/-- what the class has found -/
def AN (σ : Mm) (P : Pg) : Prop := FL σ P ∧ AU σ P ∧ (∀ v, v < 12 → σ 91 v = RV P v) ∧ LPs σ 94 95 96 3 P
theorem AN_cg {σ σ' : Mm} {P : Pg} (e : ∀ k, 88 ≤ k → k ≤ 96 → σ' k = σ k) (h : AN σ P) : AN σ' P := by
  obtain ⟨h1, ⟨h2, h3, h4, h5⟩, h6, h7, h8⟩ := h
  refine ⟨fun b hb' i hi => ?_, ⟨fun c v hc hv => ?_, fun c v hc hv => ?_, fun v hv => ?_, fun v hv q => ?_⟩, fun v hv => ?_, ?_, fun l hl => ?_⟩
  · rw [e 88 (by omega) (by omega)]; exact h1 b hb' i hi
  · rw [e 89 (by omega) (by omega)]; exact h2 c v hc hv
  · rw [e 90 (by omega) (by omega)]; exact h3 c v hc hv
  · rw [e 92 (by omega) (by omega)]; exact h4 v hv
  · rw [e 93 (by omega) (by omega)]; exact h5 v hv q
  · rw [e 91 (by omega) (by omega)]; exact h6 v hv
  · rw [e 94 (by omega) (by omega)]; exact h7
  · rw [e 95 (by omega) (by omega), e 96 (by omega) (by omega)]; exact h8 l hl
theorem AN_fq {S : List Nat} {σ σ' : Mm} {P : Pg} (h : Fq S σ σ') (hs : ∀ j, j ∈ S → j < 88 ∨ 96 < j) (ha : AN σ P) : AN σ' P := AN_cg (fun k h1 h2 => h k (fun q => by have := hs k q; omega)) ha
theorem AN.up {σ : Mm} {P : Pg} {k : Nat} {f : Nat → Int32} (h : AN σ P) (hk : k < 88 ∨ 96 < k) : AN (upm σ k f) P := AN_cg (fun j _ _ => upm_n (by omega)) h
/-- the analysis -/
theorem c_analyse {σ : Mm} {P : Pg} (hw : WP P) (hc : CP σ 1 4 P) (h : σ 0 13 = 0 ∨ (σ 0 13 = 1 ∧ AN σ P)) : ∃ σ', fX9_analyse σ = some σ' ∧ Fq [0, 88, 89, 90, 91, 92, 93, 94, 95, 96] σ σ' ∧ (∀ i, i ≠ 13 → σ' 0 i = σ 0 i) ∧ σ' 0 13 = 1 ∧ AN σ' P := by
  unfold fX9_analyse
  rcases h with h | ⟨h, ha⟩
  · rw [if_pos h]
    unfold fX1_find
    rw [c_findLive hw hc]
    simp only [obs]
    generalize hs1 : upm σ 88 (clF P (σ 88)) = s1
    have f1 : Fq [0, 88, 89, 90, 91, 92, 93, 94, 95, 96] σ s1 := hs1 ▸ Fq_rf.up (by simp)
    have z1 : s1 0 = σ 0 := by rw [← hs1, upm_n (by omega)]
    have hF1 : FL s1 P := fun b hb' i hi => by rw [← hs1, upm_s]; exact clF_at hw hb' hi
    have hc1 : CP s1 1 4 P := by rw [← hs1]; exact hc.up (by omega)
    obtain ⟨s2, e2, g2, u2⟩ := c_countUses hw hc1
    have hc2 : CP s2 1 4 P := CP_fq g2 (by simp) hc1
    have hF2 : FL s2 P := fun b hb' i hi => by rw [g2 88 (by simp)]; exact hF1 b hb' i hi
    have z2 : s2 0 = s1 0 := g2 0 (by simp)
    rw [e2]
    simp only [obs]
    rw [c_findRivals hw hc2 hF2]
    simp only [obs]
    generalize hs3 : upm s2 91 (rv3 P (z12 (s2 91)) 12) = s3
    have f3 : Fq [91] s2 s3 := hs3 ▸ Fq_rf.up (by simp)
    have hR3 : ∀ v, v < 12 → s3 91 v = RV P v := fun v hv => by rw [← hs3, upm_s]; exact RV_of hw hv
    have hc3 : CP s3 1 4 P := CP_fq f3 (by simp) hc2
    obtain ⟨s4, e4, g4, i4, l4⟩ := c_loops hw hc3
    rw [e4]
    simp only [obs, bd]
    refine ⟨_, rfl, ?_, ?_, ?_, ?_⟩
    · refine Fq.up ?_ (by simp)
      exact ((f1.tr g2 (by simp)).tr f3 (by simp)).tr g4 (by simp)
    · intro i hi
      rw [upm_s, upd_a, if_neg hi, g4 0 (by simp), f3 0 (by simp), z2, z1]
    · rw [upm_s, upd_a, if_pos rfl]
    · refine AN.up ?_ (by omega)
      refine ⟨fun b hb' i hi => ?_, ?_, ?_, l4⟩
      · rw [g4 88 (by simp), f3 88 (by simp)]; exact hF2 b hb' i hi
      · have e89 : s4 89 = s2 89 := by rw [g4 89 (by simp), f3 89 (by simp)]
        have e90 : s4 90 = s2 90 := by rw [g4 90 (by simp), f3 90 (by simp)]
        have e92 : s4 92 = s2 92 := by rw [g4 92 (by simp), f3 92 (by simp)]
        have e93 : s4 93 = s2 93 := by rw [g4 93 (by simp), f3 93 (by simp)]
        have hA := AU_of hw u2
        unfold AU at hA ⊢
        rw [e89, e90, e92, e93]
        exact hA
      · intro v hv
        rw [g4 91 (by simp)]; exact hR3 v hv
  · rw [if_neg (by rw [h]; decide)]
    exact ⟨σ, rfl, Fq_rf, fun _ _ => rfl, h, ha⟩
def mC (P : Pg) (v : Nat) : Nat := 3 * (sm (fun b => P_q P b * (nU P b v + nD P b v)) (P_n P) + (if hb (LV P 0) v = true then P_q P 0 else 0))
def rC (P : Pg) (v : Nat) : Nat := sm (fun b => P_q P b * nU P b v) (P_n P)
def cR (P : Pg) (v : Nat) : Bool := decide ((if hb (LV P 0) v = true then 1 else 0) + sm (fun b => nD P b v) (P_n P) = 1 ∧ sm (fun b => nC P b v) (P_n P) = 1)
theorem nC_le {P : Pg} {b v : Nat} : nC P b v ≤ nD P b v := by
  unfold nC nD nCi nDi
  apply cnt_mono
  intro k _ h
  rw [Bool.and_eq_true] at h
  exact h.1
theorem c_mw {σ : Mm} {P : Pg} (hw : WP P) (hc : CP σ 1 4 P) (ha : AU σ P) {b v : Nat} (hb' : b < P_n P) (hv : v < 12) : fX1_mentionWeight σ (nI b) (nI v) = some (nI (P_q P b * (nU P b v + nD P b v))) := by
  have hn := hw.1.2
  have c8 := hc.2.2.2.2.2.2.2.1
  obtain ⟨a1, a2, -⟩ := ha
  unfold fX1_mentionWeight
  simp (disch := omega) only [obs, bd, jn, bn2, un2, bn3, un3, bns, nI_1, nI_clamp, gN, gN0, gN1, gN2, gN3, nI_leI, nI_ltI, nI_eq, li_le, li_lt, le_li, lt_li, eq_li, li_eq, li_mul, mul_li, add_li, nI_add, m_has, c_has, hI_0, bI_0, c8, a1, a2, pk_mul]
theorem c_memoryCost {σ : Mm} {P : Pg} (hw : WP P) (hc : CP σ 1 4 P) (ha : AU σ P) (hf : FL σ P) {v : Nat} (hv : v < 12) : fX1_memoryCost σ (nI v) = some (nI (mC P v)) := by
  have hn := hw.1.2
  have hn0 := hw.1.1
  have c1 := hc.1
  have c8 : σ (4 + 5 * Int32.toNatClampNeg 0) 9 = nI (P_q P 0) := hc.2.2.2.2.2.2.2.1 0 (by omega)
  have e : qX1_memoryCost_4 σ (nI v) FU (0, 0) = some (nI (sm (fun b => P_q P b * (nU P b v + nD P b v)) (P_n P))) := by
    refine lp_fr (fun k => (nI (sm (fun b => P_q P b * (nU P b v + nD P b v)) k), nI k)) (P_n P) rfl ?_ ?_ (fu (by omega))
    · intro k hk rec
      show gX1_memoryCost_4 σ (nI v) rec (nI (sm _ k)) (nI k) = rec (nI (sm _ k + _), nI (k + 1))
      unfold gX1_memoryCost_4
      simp (disch := omega) only [obs, bd, jn, bn2, un2, bn3, un3, bns, nI_1, nI_clamp, gN, gN0, gN1, gN2, gN3, nI_leI, nI_ltI, nI_eq, li_le, li_lt, le_li, lt_li, eq_li, li_eq, li_mul, mul_li, add_li, nI_add, m_has, c_has, hI_0, bI_0, c1, c_mw hw hc ha, if_neg]
    · intro rec
      show gX1_memoryCost_4 σ (nI v) rec _ (nI (P_n P)) = _
      unfold gX1_memoryCost_4
      simp (disch := omega) only [obs, bd, jn, bn2, un2, bn3, un3, bns, nI_1, nI_clamp, gN, gN0, gN1, gN2, gN3, nI_leI, nI_ltI, nI_eq, li_le, li_lt, le_li, lt_li, eq_li, li_eq, li_mul, mul_li, add_li, nI_add, m_has, c_has, hI_0, bI_0, c1, if_pos]
  unfold fX1_memoryCost
  rw [e, c_lab0 hw hf]
  simp (disch := omega) only [obs, bd, jn, bn2, un2, bn3, un3, bns, nI_1, nI_clamp, gN, gN0, gN1, gN2, gN3, nI_leI, nI_ltI, nI_eq, li_le, li_lt, le_li, lt_li, eq_li, li_eq, li_mul, mul_li, add_li, nI_add, m_has, c_has, hI_0, bI_0]
  unfold mC
  cases hb (LV P 0) v
  · simp only [if_true, Bool.false_eq_true, if_false, Nat.add_zero]
  · simp only [Bool.true_eq_false, if_false, if_true, c8, li_mul, nI_add]
theorem c_recost {σ : Mm} {P : Pg} (hw : WP P) (hc : CP σ 1 4 P) (ha : AU σ P) {v : Nat} (hv : v < 12) : fX1_recomputingCost σ (nI v) = some (nI (rC P v)) := by
  have hn := hw.1.2
  have c1 := hc.1
  have c8 := hc.2.2.2.2.2.2.2.1
  have a1 := ha.1
  have e : qX1_recomputingCost_4 σ (nI v) FU (0, 0) = some (nI (rC P v)) := by
    refine lp_fr (fun k => (nI (sm (fun b => P_q P b * nU P b v) k), nI k)) (P_n P) rfl ?_ ?_ (fu (by omega))
    · intro k hk rec
      show gX1_recomputingCost_4 σ (nI v) rec (nI (sm _ k)) (nI k) = rec (nI (sm _ k + _), nI (k + 1))
      unfold gX1_recomputingCost_4
      simp (disch := omega) only [obs, bd, jn, bn2, un2, bn3, un3, bns, nI_1, nI_clamp, gN, gN0, gN1, gN2, gN3, nI_leI, nI_ltI, nI_eq, li_le, li_lt, le_li, lt_li, eq_li, li_eq, li_mul, mul_li, add_li, nI_add, m_has, c_has, hI_0, bI_0, c1, c8, a1, pk_mul, if_neg]
    · intro rec
      show gX1_recomputingCost_4 σ (nI v) rec _ (nI (P_n P)) = _
      unfold gX1_recomputingCost_4
      simp (disch := omega) only [obs, bd, jn, bn2, un2, bn3, un3, bns, nI_1, nI_clamp, gN, gN0, gN1, gN2, gN3, nI_leI, nI_ltI, nI_eq, li_le, li_lt, le_li, lt_li, eq_li, li_eq, li_mul, mul_li, add_li, nI_add, m_has, c_has, hI_0, bI_0, c1, if_pos]
      rfl
  unfold fX1_recomputingCost
  rw [e]
  rfl
theorem c_canRe {σ : Mm} {P : Pg} (hw : WP P) (hc : CP σ 1 4 P) (ha : AU σ P) (hf : FL σ P) {v : Nat} (hv : v < 12) : fX1_canRecompute σ (nI v) = some (bI (cR P v)) := by
  have hn := hw.1.2
  have hn0 := hw.1.1
  have c1 := hc.1
  obtain ⟨-, a2, a3, -⟩ := ha
  have bD : sm (fun b => nD P b v) (P_n P) ≤ P_n P * 8 := sm_le (fun k hk => nD_le hw (by omega))
  have bC : sm (fun b => nC P b v) (P_n P) ≤ P_n P * 8 := sm_le (fun k hk => Nat.le_trans nC_le (nD_le hw (by omega)))
  have e : ∀ x : Nat, qX1_canRecompute_20 σ (nI v) FU (nI x, 0) = some (nI (x + sm (fun b => nD P b v) (P_n P))) := by
    intro x
    refine lp_fr (fun k => (nI (x + sm (fun b => nD P b v) k), nI k)) (P_n P) rfl ?_ ?_ (fu (by omega))
    · intro k hk rec
      show gX1_canRecompute_20 σ (nI v) rec (nI (x + sm _ k)) (nI k) = rec (nI (x + (sm _ k + _)), nI (k + 1))
      unfold gX1_canRecompute_20
      simp (disch := omega) only [obs, bd, jn, bn2, un2, bn3, un3, bns, nI_1, nI_clamp, gN, gN0, gN1, gN2, gN3, nI_leI, nI_ltI, nI_eq, li_le, li_lt, le_li, lt_li, eq_li, li_eq, li_mul, mul_li, add_li, nI_add, m_has, c_has, hI_0, bI_0, c1, a2, if_neg]
      rw [Nat.add_assoc]
    · intro rec
      show gX1_canRecompute_20 σ (nI v) rec _ (nI (P_n P)) = _
      unfold gX1_canRecompute_20
      simp (disch := omega) only [obs, bd, jn, bn2, un2, bn3, un3, bns, nI_1, nI_clamp, gN, gN0, gN1, gN2, gN3, nI_leI, nI_ltI, nI_eq, li_le, li_lt, le_li, lt_li, eq_li, li_eq, li_mul, mul_li, add_li, nI_add, m_has, c_has, hI_0, bI_0, c1, if_pos]
  have e2 : ∀ x : Nat, x ≤ 1 → ((qX1_canRecompute_20 σ (nI v) FU (nI x, 0)).bind fun v5 => if v5 = 1 then gd (nI v) 12 (if σ 92 (nI v).toNatClampNeg = 1 then some 1 else some 0) else some 0) = some (bI (decide (x + sm (fun b => nD P b v) (P_n P) = 1 ∧ sm (fun b => nC P b v) (P_n P) = 1))) := by
    intro x hx
    rw [e]
    simp (disch := omega) only [obs, bd, jn, bn2, un2, bn3, un3, bns, nI_1, nI_clamp, gN, gN0, gN1, gN2, gN3, nI_leI, nI_ltI, nI_eq, li_le, li_lt, le_li, lt_li, eq_li, li_eq, li_mul, mul_li, add_li, nI_add, m_has, c_has, hI_0, bI_0, a3]
    by_cases h1 : x + sm (fun b => nD P b v) (P_n P) = 1
    · by_cases h2 : sm (fun b => nC P b v) (P_n P) = 1
      · simp [h1, h2, bI]
      · simp [h1, h2, bI]
    · simp [h1, bI]
  unfold fX1_canRecompute
  rw [c_lab0 hw hf]
  simp (disch := omega) only [obs, c_has, jn]
  unfold cR
  cases c : hb (LV P 0) v
  · rw [if_pos (hI_0.mpr c)]
    exact e2 0 (by omega)
  · rw [if_neg (by rw [hI_1.mpr c]; decide)]
    exact e2 1 (by omega)
def mU (P : Pg) (b : Nat) : Int32 := orF (fun v => if nU P b v = 0 then 0 else b1 v) 12
def mD (P : Pg) (b : Nat) : Int32 := orF (fun v => if nD P b v = 0 then 0 else b1 v) 12
theorem hb_mk {f : Nat → Nat} {n v : Nat} (hn : n ≤ 32) : hb (orF (fun v => if f v = 0 then 0 else b1 v) n) v = (decide (v < n) && decide (f v ≠ 0)) := by
  apply Bool.eq_iff_iff.mpr
  rw [hb_orF, anyF_iff, Bool.and_eq_true, decide_eq_true_eq, decide_eq_true_eq]
  constructor
  · rintro ⟨k, h1, h2⟩
    split at h2
    · rw [hb_0] at h2; cases h2
    · next c =>
      rw [hb_b1 (by omega)] at h2
      have : k = v := by simpa using h2
      subst this
      exact ⟨h1, c⟩
  · rintro ⟨h1, h2⟩
    refine ⟨v, h1, ?_⟩
    rw [if_neg h2, hb_b1 (by omega)]
    simp
theorem lo_mk {f : Nat → Nat} {n : Nat} (hn : n ≤ 32) : lo n (orF (fun v => if f v = 0 then 0 else b1 v) n) := fun i hi => by
  rw [hb_mk hn, decide_eq_false (by omega)]; rfl
theorem c_countedIn {σ : Mm} {a b : Nat} {f : Nat → Nat} (hb' : b < 8) (h : ∀ v, v < 12 → σ a (b * 12 + v) = nI (f v)) (hf : ∀ v, f v < 100) : fX1_countedIn σ (nI b) a 96 = some (orF (fun v => if f v = 0 then 0 else b1 v) 12) := by
  have e : qX1_countedIn_4 σ (nI b) a 96 FU (0, 0) = some (orF (fun v => if f v = 0 then 0 else b1 v) 12) := by
    refine lp_fr (fun k => (orF (fun v => if f v = 0 then 0 else b1 v) k, nI k)) 12 rfl ?_ ?_ (fu (by omega))
    · intro k hk rec
      show gX1_countedIn_4 σ (nI b) a 96 rec (orF _ k) (nI k) = rec (orF _ k ||| _, nI (k + 1))
      have hfk := hf k
      unfold gX1_countedIn_4
      simp (disch := omega) only [obs, bd, jn, bn2, un2, bn3, un3, bns, nI_1, nI_clamp, gN, gN0, gN1, gN2, gN3, nI_leI, nI_ltI, nI_eq, li_le, li_lt, le_li, lt_li, eq_li, li_eq, li_mul, mul_li, add_li, nI_add, m_has, c_has, hI_0, bI_0, h, if_neg, Nat.le_zero]
      by_cases c : f k = 0
      · simp [c, orB0]
      · simp [c, b1]
    · intro rec
      show gX1_countedIn_4 σ (nI b) a 96 rec _ (nI 12) = _
      unfold gX1_countedIn_4
      simp (disch := omega) only [obs, bd, jn, bn2, un2, bn3, un3, bns, nI_1, nI_clamp, gN, gN0, gN1, gN2, gN3, nI_leI, nI_ltI, nI_eq, li_le, li_lt, le_li, lt_li, eq_li, li_eq, li_mul, mul_li, add_li, nI_add, m_has, c_has, hI_0, bI_0, if_pos]
  unfold fX1_countedIn
  rw [e]
  rfl
theorem nU_lt {P : Pg} (hw : WP P) {b : Nat} (hb' : b < 8) (v : Nat) : nU P b v < 100 := by have := @nU_le P hw b v hb'; omega
theorem nD_lt {P : Pg} (hw : WP P) {b : Nat} (hb' : b < 8) (v : Nat) : nD P b v < 100 := by have := @nD_le P hw b v hb'; omega
theorem c_definedIn {σ : Mm} {P : Pg} (hw : WP P) (ha : AU σ P) {b : Nat} (hb' : b < P_n P) : fX1_definedIn σ (nI b) = some (mD P b) := by
  have hn := hw.1.2
  unfold fX1_definedIn
  rw [c_countedIn (by omega) (fun v hv => ha.2.1 b v hb' hv) (nD_lt hw (by omega))]
  rfl
theorem c_mentionedIn {σ : Mm} {P : Pg} (hw : WP P) (ha : AU σ P) {b : Nat} (hb' : b < P_n P) : fX1_mentionedIn σ (nI b) = some (mU P b ||| mD P b) := by
  have hn := hw.1.2
  unfold fX1_mentionedIn
  rw [c_countedIn (by omega) (fun v hv => ha.1 b v hb' hv) (nU_lt hw (by omega)), c_definedIn hw ha hb']
  rfl
def UV (P : Pg) : Int32 := orF (fun b => mU P b ||| mD P b) (P_n P)
def uV (P : Pg) (v : Nat) : Bool := anyF (fun b => decide (nU P b v ≠ 0) || decide (nD P b v ≠ 0)) (P_n P)
theorem hb_UV {P : Pg} {v : Nat} (hv : v < 12) : hb (UV P) v = uV P v := by
  unfold UV uV
  rw [hb_orF]
  apply anyF_cg
  intro b _
  show hb (mU P b ||| mD P b) v = _
  rw [hb_or]
  unfold mU mD
  rw [hb_mk (by omega), hb_mk (by omega), decide_eq_true hv]
  simp
theorem lo_UV {P : Pg} : lo 12 (UV P) := lo_orF (fun b _ => lo_or (lo_mk (by omega)) (lo_mk (by omega)))
theorem c_used {σ : Mm} {P : Pg} (hw : WP P) (hc : CP σ 1 4 P) (ha : AU σ P) : fX1_usedVariables σ = some (UV P) := by
  have hn := hw.1.2
  have c1 := hc.1
  have e : qX1_usedVariables_4 σ FU (0, 0) = some (UV P) := by
    refine lp_fr (fun k => (orF (fun b => mU P b ||| mD P b) k, nI k)) (P_n P) rfl ?_ ?_ (fu (by omega))
    · intro k hk rec
      show gX1_usedVariables_4 σ rec (orF _ k) (nI k) = rec (orF _ k ||| _, nI (k + 1))
      unfold gX1_usedVariables_4
      simp (disch := omega) only [obs, bd, jn, bn2, un2, bn3, un3, bns, nI_1, nI_clamp, gN, gN0, gN1, gN2, gN3, nI_leI, nI_ltI, nI_eq, li_le, li_lt, le_li, lt_li, eq_li, li_eq, li_mul, mul_li, add_li, nI_add, m_has, c_has, hI_0, bI_0, c1, c_mentionedIn hw ha, if_neg]
    · intro rec
      show gX1_usedVariables_4 σ rec _ (nI (P_n P)) = _
      unfold gX1_usedVariables_4
      simp (disch := omega) only [obs, bd, jn, bn2, un2, bn3, un3, bns, nI_1, nI_clamp, gN, gN0, gN1, gN2, gN3, nI_leI, nI_ltI, nI_eq, li_le, li_lt, le_li, lt_li, eq_li, li_eq, li_mul, mul_li, add_li, nI_add, m_has, c_has, hI_0, bI_0, c1, if_pos]
      rfl
  unfold fX1_usedVariables
  rw [e]
  rfl
