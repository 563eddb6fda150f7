/-! loops: what is present, what is gained -/
def BD (P : Pg) (l : Nat) : Int32 := LB P (LH P l)
theorem c_contains {σ : Mm} {P : Pg} (hw : WP P) (hl : LPs σ 94 95 96 3 P) {l b : Nat} (h : l < LC P) (hb' : b < 8) : fX2_contains σ (nI l) (nI b) = some (bI (hb (BD P l) b)) := by
  have h8 := LC_le hw
  have e := (hl.2 l h).2
  unfold fX2_contains
  rw [if_neg (nI_ne_m1 (by omega))]
  simp (disch := omega) only [obs, bd, jn, bn2, un2, bn3, un3, bns, nI_1, nI_clamp, gN, gN0, gN1, gN2, gN3, nI_leI, nI_ltI, nI_eq, li_le, li_lt, le_li, lt_li, eq_li, li_eq, li_mul, mul_li, add_li, nI_add, m_has, c_has, hI_0, bI_0, e]
  rw [show LB P (LH P l) = BD P l from rfl]
  cases hb (BD P l) b <;> simp [bI]
theorem c_contains1 {σ : Mm} {l : Nat} : fX2_contains σ (nI l) (-1) = some 0 := if_pos rfl
theorem CP_n {σ : Mm} {P : Pg} (hc : CP σ 1 4 P) : σ 1 2 = nI (P_n P) := hc.1
theorem c_survey {σ : Mm} {P : Pg} (hw : WP P) (hc : CP σ 1 4 P) (ha : AN σ P) : ∃ σ', fX5_surveyLoops σ = some σ' ∧ Fq [102, 103] σ σ' ∧ ∀ l, l < LC P → σ' 102 l = pI P (BD P l) ∧ σ' 103 l = tI P (BD P l) := by
  have hn := hw.1.2
  have h8 := LC_le hw
  have key : ∃ σ', qX5_surveyLoops_2 FU (σ, 0) = some σ' ∧ (Fq [102, 103] σ σ' ∧ ∀ l, l < LC P → σ' 102 l = pI P (BD P l) ∧ σ' 103 l = tI P (BD P l)) := by
    refine lp_inv2 (fun k s => Fq [102, 103] σ s ∧ ∀ l, l < k → s 102 l = pI P (BD P l) ∧ s 103 l = tI P (BD P l)) (LC P) _ ?_ ?_ ⟨Fq_rf, fun l hl => by omega⟩ (fu (by omega))
    · rintro k s hk ⟨g1, g2⟩
      generalize hs2 : upm (upm s 102 (upd (s 102) k 0)) 103 (upd (s 103) k 0) = s2
      have f2 : Fq [102, 103] σ s2 := hs2 ▸ (g1.up (by simp)).up (by simp)
      have i1 : s2 102 = upd (s 102) k 0 := by rw [← hs2, upm_n (by omega), upm_s]
      have i2 : s2 103 = upd (s 103) k 0 := by rw [← hs2, upm_s]
      have k1 : ∃ σ', qX5_surveyLoops_29 (nI k) FU (s2, 0) = some σ' ∧ (Fq [102, 103] σ σ' ∧ (∀ l, l ≠ k → σ' 102 l = s 102 l ∧ σ' 103 l = s 103 l) ∧ σ' 102 k = pI P (BD P k) ∧ σ' 103 k = tI P (BD P k)) := by
        refine lp_inv2 (fun b s' => Fq [102, 103] σ s' ∧ (∀ l, l ≠ k → s' 102 l = s 102 l ∧ s' 103 l = s 103 l) ∧ s' 102 k = orF (fun b => if hb (BD P k) b = true then LV P b ||| (mU P b ||| mD P b) else 0) b ∧ s' 103 k = orF (fun b => if hb (BD P k) b = true then mD P b else 0) b) (P_n P) _ ?_ ?_ ⟨f2, fun l hl => ?_, ?_, ?_⟩ (fu (by omega))
        · rintro b s' hb' ⟨q1, q2, q3, q4⟩
          have hc1 : CP s' 1 4 P := CP_fq q1 (by simp) hc
          have ha1 : AN s' P := AN_fq q1 (by simp) ha
          have c1 := hc1.1
          have ha2 : AN (upm s' 102 (upd (s' 102) k (s' 102 k ||| (LV P b ||| (mU P b ||| mD P b))))) P := ha1.up (by omega)
          have e0 : ∀ rec, gX5_surveyLoops_29 (nI k) rec s' (nI b) = if hb (BD P k) b = true then rec (upm (upm s' 102 (upd (s' 102) k (s' 102 k ||| (LV P b ||| (mU P b ||| mD P b))))) 103 (upd (s' 103) k (s' 103 k ||| mD P b)), nI (b + 1)) else rec (s', nI (b + 1)) := by
            intro rec
            unfold gX5_surveyLoops_29
            simp (disch := omega) only [obs, bd, jn, bn2, un2, bn3, un3, bns, nI_1, nI_clamp, gN, gN0, gN1, gN2, gN3, nI_leI, nI_ltI, nI_eq, li_le, li_lt, le_li, lt_li, eq_li, li_eq, li_mul, mul_li, add_li, nI_add, m_has, c_has, hI_0, bI_0, if_neg, c1, c_contains hw ha1.2.2.2 hk, c_lab hw ha1.1, c_mentionedIn hw ha1.2.1, c_definedIn hw ha2.2.1, upm_n, ne_eq]
            cases hb (BD P k) b <;> simp
          by_cases c : hb (BD P k) b = true
          · refine ⟨_, fun rec => (e0 rec).trans (if_pos c), (q1.up (by simp)).up (by simp), fun l hl => ?_, ?_, ?_⟩
            · rw [upm_n (by omega), upm_s, upm_s, upd_a, upd_a, if_neg hl, if_neg hl]
              exact q2 l hl
            · rw [upm_n (by omega), upm_s, upd_a, if_pos rfl, q3]
              simp only [orF]
              rw [if_pos c]
            · rw [upm_s, upd_a, if_pos rfl, q4]
              simp only [orF]
              rw [if_pos c]
          · refine ⟨_, fun rec => (e0 rec).trans (if_neg c), q1, q2, ?_, ?_⟩
            · simp only [orF]
              rw [if_neg c, orB0, q3]
            · simp only [orF]
              rw [if_neg c, orB0, q4]
        · rintro s' ⟨q1, q2, q3, q4⟩
          have c1 := (CP_fq q1 (by simp) hc).1
          refine ⟨s', fun rec => ?_, q1, q2, q3, ?_⟩
          · show gX5_surveyLoops_29 (nI k) rec s' (nI (P_n P)) = _
            unfold gX5_surveyLoops_29
            simp (disch := omega) only [obs, bd, jn, bn2, un2, bn3, un3, bns, nI_1, nI_clamp, gN, gN0, gN1, gN2, gN3, nI_leI, nI_ltI, nI_eq, li_le, li_lt, le_li, lt_li, eq_li, li_eq, li_mul, mul_li, add_li, nI_add, m_has, c_has, hI_0, bI_0, c1, if_pos]
          · rw [tI_eq hw]; exact q4
        · rw [i1, i2, upd_a, upd_a, if_neg hl, if_neg hl]; exact ⟨rfl, rfl⟩
        · rw [i1, upd_a, if_pos rfl]; rfl
        · rw [i2, upd_a, if_pos rfl]; rfl
      obtain ⟨s3, e3, q1, q2, q3, q4⟩ := k1
      have l3 : s 94 3 = nI (LC P) := by rw [g1 94 (by simp)]; exact ha.2.2.2.1
      refine ⟨s3, fun rec => ?_, q1, fun l hl => ?_⟩
      · show gX5_surveyLoops_2 rec s (nI k) = _
        unfold gX5_surveyLoops_2
        simp (disch := omega) only [obs, bd, jn, bn2, un2, bn3, un3, bns, nI_1, nI_clamp, gN, gN0, gN1, gN2, gN3, nI_leI, nI_ltI, nI_eq, li_le, li_lt, le_li, lt_li, eq_li, li_eq, li_mul, mul_li, add_li, nI_add, m_has, c_has, hI_0, bI_0, if_neg, l3, upm_n, ne_eq]
        rw [hs2, e3]
        rfl
      · rcases Nat.lt_or_ge l k with r | r
        · rw [(q2 l (by omega)).1, (q2 l (by omega)).2]; exact g2 l r
        · have : l = k := by omega
          subst this; exact ⟨q3, q4⟩
    · rintro s ⟨g1, g2⟩
      have l3 : s 94 3 = nI (LC P) := by rw [g1 94 (by simp)]; exact ha.2.2.2.1
      refine ⟨s, fun rec => ?_, g1, g2⟩
      show gX5_surveyLoops_2 rec s (nI (LC P)) = _
      unfold gX5_surveyLoops_2
      simp (disch := omega) only [obs, bd, jn, bn2, un2, bn3, un3, bns, nI_1, nI_clamp, gN, gN0, gN1, gN2, gN3, nI_leI, nI_ltI, nI_eq, li_le, li_lt, le_li, lt_li, eq_li, li_eq, li_mul, mul_li, add_li, nI_add, m_has, c_has, hI_0, bI_0, l3, if_pos]
  obtain ⟨s, e, q⟩ := key
  refine ⟨s, ?_, q⟩
  unfold fX5_surveyLoops
  rw [e]
  rfl
/-- whether it is live where the loop is left from b -/
def lo1 (P : Pg) (l v b : Nat) : Bool := anyF (fun t => gt P b t && (!(hb (BD P l) t) && hb (LV P t) v)) (P_n P)
def ld1 (P : Pg) (l v b : Nat) : Bool := gt P b (LH P l) && hb (LV P (LH P l)) v
def gA (P : Pg) (l v b : Nat) : Nat := if hb (BD P l) b = true then P_q P b * (nU P b v + nD P b v) else 0
def gB (P : Pg) (l v b : Nat) : Nat := if (if hb (BD P l) b = true then lo1 P l v b && hb (tI P (BD P l)) v else ld1 P l v b) = true then P_q P b else 0
/-- the gain, as ints -/
def gn (P : Pg) (l v : Nat) : Int32 := 3 * (nI (sm (gA P l v) (P_n P)) - nI (sm (gB P l v) (P_n P)))
theorem c_leaves {σ : Mm} {P : Pg} (hw : WP P) (hc : CP σ 1 4 P) (ha : AN σ P) {l v b : Nat} (hl : l < LC P) (hv : v < 12) (hb' : b < P_n P) : fX5_isLiveOutside σ (nI b) (nI v) (nI l) = some (bI (lo1 P l v b)) := by
  have hn := hw.1.2
  have h8 := LC_le hw
  have c1 := hc.1
  have e96 := (ha.2.2.2.2 l hl).2
  have ex : ∀ t, t < P_n P → hb (sc P b &&& (BD P l ^^^ (-1))) t = (gt P b t && !(hb (BD P l) t)) := fun t ht => by
    rw [hb_and, hb_sc hw (by omega), hb_not (by omega)]
  have key : ∃ r, qX5_isLiveOutside_29 σ (nI v) (sc P b &&& (BD P l ^^^ (-1))) FU 0 = some r ∧ ((lo1 P l v b = true ∧ r = .inl 1) ∨ (lo1 P l v b = false ∧ r = .inr ())) := by
    refine lp_inv1e (fun k => anyF (fun t => gt P b t && (!(hb (BD P l) t) && hb (LV P t) v)) k = false) (P_n P) _ ?_ ?_ rfl (fu (by omega))
    · intro k hk hJ
      have exk := ex k hk
      have e0 : ∀ rec, gX5_isLiveOutside_29 σ (nI v) (sc P b &&& (BD P l ^^^ (-1))) rec (nI k) = if (gt P b k && (!(hb (BD P l) k) && hb (LV P k) v)) = true then some (.inl 1) else rec (nI (k + 1)) := by
        intro rec
        unfold gX5_isLiveOutside_29
        simp (disch := omega) only [obs, bd, jn, bn2, un2, bn3, un3, bns, nI_1, nI_clamp, gN, gN0, gN1, gN2, gN3, nI_leI, nI_ltI, nI_eq, li_le, li_lt, le_li, lt_li, eq_li, li_eq, li_mul, mul_li, add_li, nI_add, m_has, c_has, hI_0, bI_0, if_neg, c1, c_lab hw ha.1, exk]
        cases gt P b k <;> cases hb (BD P l) k <;> cases hb (LV P k) v <;> simp
      by_cases c : (gt P b k && (!(hb (BD P l) k) && hb (LV P k) v)) = true
      · refine Or.inl ⟨.inl 1, fun rec => (e0 rec).trans (if_pos c), Or.inl ⟨anyF_iff.mpr ⟨k, hk, c⟩, rfl⟩⟩
      · refine Or.inr ⟨fun rec => (e0 rec).trans (if_neg c), ?_⟩
        simp only [anyF]
        rw [hJ, Bool.eq_false_iff.mpr c]
        rfl
    · intro hJ
      refine ⟨.inr (), fun rec => ?_, Or.inr ⟨hJ, rfl⟩⟩
      show gX5_isLiveOutside_29 σ (nI v) _ rec (nI (P_n P)) = _
      unfold gX5_isLiveOutside_29
      simp (disch := omega) only [obs, bd, jn, bn2, un2, bn3, un3, bns, nI_1, nI_clamp, gN, gN0, gN1, gN2, gN3, nI_leI, nI_ltI, nI_eq, li_le, li_lt, le_li, lt_li, eq_li, li_eq, li_mul, mul_li, add_li, nI_add, m_has, c_has, hI_0, bI_0, c1, if_pos]
  obtain ⟨r, e1, e2⟩ := key
  unfold fX5_isLiveOutside
  simp (disch := omega) only [obs, bd, jn, bn2, un2, bn3, un3, bns, nI_1, nI_clamp, gN, gN0, gN1, gN2, gN3, nI_leI, nI_ltI, nI_eq, li_le, li_lt, le_li, lt_li, eq_li, li_eq, li_mul, mul_li, add_li, nI_add, m_has, c_has, hI_0, bI_0, c_successors hw hc, e96]
  rw [show LB P (LH P l) = BD P l from rfl, e1]
  rcases e2 with ⟨h1, rfl⟩ | ⟨h1, rfl⟩
  · rw [h1]; rfl
  · rw [h1]; rfl
theorem c_edge {σ : Mm} {P : Pg} (hw : WP P) (hc : CP σ 1 4 P) (ha : AN σ P) {l v b : Nat} (hl : l < LC P) (hv : v < 12) (hb' : b < P_n P) : fX5_loadsOnEdge σ (nI b) (nI v) (nI l) = some (bI (ld1 P l v b)) := by
  have hn := hw.1.2
  have h8 := LC_le hw
  have e95 := (ha.2.2.2.2 l hl).1
  have hh := LH_lt hl
  unfold fX5_loadsOnEdge ld1
  simp (disch := omega) only [obs, bd, jn, bn2, un2, bn3, un3, bns, nI_1, nI_clamp, gN, gN0, gN1, gN2, gN3, nI_leI, nI_ltI, nI_eq, li_le, li_lt, le_li, lt_li, eq_li, li_eq, li_mul, mul_li, add_li, nI_add, m_has, c_has, hI_0, bI_0, e95, c_successors hw hc, hb_sc hw, c_lab hw ha.1]
  cases gt P b (LH P l) <;> cases hb (LV P (LH P l)) v <;> simp [bI]
theorem i_swap (a b c d : Int32) : (a - b) + (c - d) = (a + c) - (b + d) := by
  rw [Int32.sub_eq_add_neg, Int32.sub_eq_add_neg, Int32.sub_eq_add_neg, Int32.neg_add, Int32.add_assoc, Int32.add_assoc]
  congr 1
  rw [← Int32.add_assoc, Int32.add_comm (-b) c, Int32.add_assoc, Int32.sub_eq_add_neg]
theorem i_sub0 (a : Int32) : a - 0 = a := Int32.sub_zero a
theorem i_subs (a b c : Int32) : (a - b) - c = a - (b + c) := by
  have := i_swap a b 0 c
  rw [Int32.zero_sub, Int32.add_zero] at this
  rw [← this, Int32.sub_eq_add_neg (a - b) c]
theorem c_gain {σ : Mm} {P : Pg} (hw : WP P) (hc : CP σ 1 4 P) (ha : AN σ P) (hd : ∀ l, l < LC P → σ 103 l = tI P (BD P l)) {l v : Nat} (hl : l < LC P) (hv : v < 12) : fX5_gainOf σ (nI v) (nI l) = some (gn P l v) := by
  have hn := hw.1.2
  have h8 := LC_le hw
  have c1 := hc.1
  have c8 := hc.2.2.2.2.2.2.2.1
  have e : qX5_gainOf_17 σ (nI v) (nI l) (hI (tI P (BD P l)) v) FU (0, 0) = some (nI (sm (gA P l v) (P_n P)) - nI (sm (gB P l v) (P_n P))) := by
    refine lp_fr (fun k => (nI (sm (gA P l v) k) - nI (sm (gB P l v) k), nI k)) (P_n P) (show (nI 0 - nI 0, nI 0) = ((0 : Int32), (0 : Int32)) by decide) ?_ ?_ (fu (by omega))
    · intro k hk rec
      show gX5_gainOf_17 σ (nI v) (nI l) (hI (tI P (BD P l)) v) rec (nI (sm (gA P l v) k) - nI (sm (gB P l v) k)) (nI k) = rec (nI (sm (gA P l v) k + gA P l v k) - nI (sm (gB P l v) k + gB P l v k), nI (k + 1))
      unfold gX5_gainOf_17
      simp (disch := omega) only [obs, bd, jn, bn2, un2, bn3, un3, bns, nI_1, nI_clamp, gN, gN0, gN1, gN2, gN3, nI_leI, nI_ltI, nI_eq, li_le, li_lt, le_li, lt_li, eq_li, li_eq, li_mul, mul_li, add_li, nI_add, m_has, c_has, hI_0, bI_0, if_neg, c1, c_contains hw ha.2.2.2 hl, c_edge hw hc ha hl hv, c_mw hw hc ha.2.1, c_leaves hw hc ha hl hv, c8]
      generalize sm (gA P l v) k = A, sm (gB P l v) k = B
      unfold gA gB
      cases hb (BD P l) k
      · cases ld1 P l v k
        · simp
        · simp only [if_true, Bool.true_eq_false, Bool.false_eq_true, if_false, Nat.add_zero]
          rw [i_subs, nI_add]
      · cases lo1 P l v k <;> cases hb (tI P (BD P l)) v
        · simp only [if_true, Bool.true_eq_false, Bool.false_eq_true, if_false, Nat.add_zero, Bool.and_false]
          have := i_swap (nI A) (nI B) (nI (P_q P k * (nU P k v + nD P k v))) 0
          rw [i_sub0, Int32.add_zero, nI_add] at this
          rw [this]
        · simp only [if_true, Bool.true_eq_false, Bool.false_eq_true, if_false, Nat.add_zero, Bool.false_and]
          have := i_swap (nI A) (nI B) (nI (P_q P k * (nU P k v + nD P k v))) 0
          rw [i_sub0, Int32.add_zero, nI_add] at this
          rw [this]
        · simp only [if_true, Bool.true_eq_false, Bool.false_eq_true, if_false, Nat.add_zero, Bool.and_false]
          have := i_swap (nI A) (nI B) (nI (P_q P k * (nU P k v + nD P k v))) 0
          rw [i_sub0, Int32.add_zero, nI_add] at this
          rw [this]
        · simp only [if_true, Bool.true_eq_false, Bool.false_eq_true, if_false, Nat.add_zero, Bool.and_true]
          have := i_swap (nI A) (nI B) (nI (P_q P k * (nU P k v + nD P k v))) 0
          rw [i_sub0, Int32.add_zero, nI_add] at this
          rw [this, i_subs, nI_add]
    · intro rec
      show gX5_gainOf_17 σ (nI v) (nI l) _ rec _ (nI (P_n P)) = _
      unfold gX5_gainOf_17
      simp (disch := omega) only [obs, bd, jn, bn2, un2, bn3, un3, bns, nI_1, nI_clamp, gN, gN0, gN1, gN2, gN3, nI_leI, nI_ltI, nI_eq, li_le, li_lt, le_li, lt_li, eq_li, li_eq, li_mul, mul_li, add_li, nI_add, m_has, c_has, hI_0, bI_0, c1, if_pos]
  unfold fX5_gainOf
  simp (disch := omega) only [obs, bd, jn, bn2, un2, bn3, un3, bns, nI_1, nI_clamp, gN, gN0, gN1, gN2, gN3, nI_leI, nI_ltI, nI_eq, li_le, li_lt, le_li, lt_li, eq_li, li_eq, li_mul, mul_li, add_li, nI_add, m_has, c_has, hI_0, bI_0, hd l hl]
  rw [e]
  rfl
theorem gA_sum {P : Pg} {l v : Nat} : sU P v (BD P l) + sD P v (BD P l) = sm (gA P l v) (P_n P) := by
  unfold sU sD
  rw [← sm_add]
  refine sm_cg (fun k _ => ?_)
  unfold gA
  split
  · exact (Nat.mul_add _ _ _).symm
  · rfl
theorem m_leaves {σ : Mm} {P : Pg} (hw : WP P) (hm : MP σ 124 1 P) (hL : ML σ P) (hl' : LPs σ 123 137 138 17 P) {l v b : Nat} {y : Int32} (hl : l < LC P) (hv : v < 12) (hb' : b < P_n P) : qX10_gain_106 σ (nI v) (nI l) y (nI b) FU (0, 0) = some (bI (lo1 P l v b)) := by
  have hn := hw.1.2
  have h8 := LC_le hw
  have m1 := hm.1
  have e138 := (hl'.2 l hl).2
  refine lp_fr (fun k => (bI (anyF (fun t => gt P b t && (!(hb (BD P l) t) && hb (LV P t) v)) k), nI k)) (P_n P) rfl ?_ ?_ (fu (by omega))
  · intro k hk rec
    show gX10_gain_106 σ (nI v) (nI l) y (nI b) rec (bI (anyF _ k)) (nI k) = rec (bI (anyF _ k || (gt P b k && (!(hb (BD P l) k) && hb (LV P k) v))), nI (k + 1))
    unfold gX10_gain_106
    simp (disch := omega) only [obs, bd, jn, bn2, un2, bn3, un3, bns, nI_1, nI_clamp, gN, gN0, gN1, gN2, gN3, nI_leI, nI_ltI, nI_eq, li_le, li_lt, le_li, lt_li, eq_li, li_eq, li_mul, mul_li, add_li, nI_add, m_has, c_has, hI_0, bI_0, if_neg, m1, m_goesTo hw hm, e138, hL k hk]
    rw [show LB P (LH P l) = BD P l from rfl, show (0 : Int32) = bI false from rfl, show (1 : Int32) = bI true from rfl]
    simp only [bI_or]
    cases gt P b k <;> cases hb (BD P l) k <;> cases hb (LV P k) v <;> simp
  · intro rec
    show gX10_gain_106 σ (nI v) (nI l) y (nI b) rec _ (nI (P_n P)) = _
    unfold gX10_gain_106
    simp (disch := omega) only [obs, bd, jn, bn2, un2, bn3, un3, bns, nI_1, nI_clamp, gN, gN0, gN1, gN2, gN3, nI_leI, nI_ltI, nI_eq, li_le, li_lt, le_li, lt_li, eq_li, li_eq, li_mul, mul_li, add_li, nI_add, m_has, c_has, hI_0, bI_0, m1, if_pos]
    rfl
theorem m_gain {σ : Mm} {P : Pg} (hw : WP P) (hm : MP σ 124 1 P) (hL : ML σ P) (hl' : LPs σ 123 137 138 17 P) {l v : Nat} (hl : l < LC P) (hv : v < 12) : fX10_gain σ (nI v) (nI l) = some (gn P l v) := by
  have hn := hw.1.2
  have h8 := LC_le hw
  have m1 := hm.1
  have m8 := hm.2.2.2.2.2.2.2.1
  have hh := LH_lt hl
  obtain ⟨e137, e138⟩ := hl'.2 l hl
  have eLh := hL _ hh
  have e : ∀ x : Nat, qX10_gain_27 σ (nI v) (nI l) FU (nI x, 0) = some (nI x - nI (sm (gB P l v) (P_n P))) := by
    intro x
    refine lp_fr (fun k => (nI x - nI (sm (gB P l v) k), nI k)) (P_n P) (by show (nI x - 0, _) = _; rw [i_sub0]; rfl) ?_ ?_ (fu (by omega))
    · intro k hk rec
      show gX10_gain_27 σ (nI v) (nI l) rec (nI x - nI (sm (gB P l v) k)) (nI k) = rec (nI x - nI (sm (gB P l v) k + gB P l v k), nI (k + 1))
      unfold gX10_gain_27
      simp (disch := omega) only [obs, bd, jn, bn2, un2, bn3, un3, bns, nI_1, nI_clamp, gN, gN0, gN1, gN2, gN3, nI_leI, nI_ltI, nI_eq, li_le, li_lt, le_li, lt_li, eq_li, li_eq, li_mul, mul_li, add_li, nI_add, m_has, c_has, hI_0, bI_0, if_neg, m1, e138, e137, m_goesTo hw hm, eLh, m8, m_leaves hw hm hL hl' hl hv, m_targetsIn hw hm, i_sub0]
      rw [show LB P (LH P l) = BD P l from rfl]
      generalize sm (gB P l v) k = B
      unfold gB ld1
      cases hb (BD P l) k
      · cases gt P k (LH P l) <;> cases hb (LV P (LH P l)) v <;> simp [i_subs, nI_add]
      · cases lo1 P l v k <;> cases hb (tI P (BD P l)) v <;> simp [i_subs, nI_add]
    · intro rec
      show gX10_gain_27 σ (nI v) (nI l) rec _ (nI (P_n P)) = _
      unfold gX10_gain_27
      simp (disch := omega) only [obs, bd, jn, bn2, un2, bn3, un3, bns, nI_1, nI_clamp, gN, gN0, gN1, gN2, gN3, nI_leI, nI_ltI, nI_eq, li_le, li_lt, le_li, lt_li, eq_li, li_eq, li_mul, mul_li, add_li, nI_add, m_has, c_has, hI_0, bI_0, m1, if_pos]
  unfold fX10_gain
  simp (disch := omega) only [obs, bd, jn, bn2, un2, bn3, un3, bns, nI_1, nI_clamp, gN, gN0, gN1, gN2, gN3, nI_leI, nI_ltI, nI_eq, li_le, li_lt, le_li, lt_li, eq_li, li_eq, li_mul, mul_li, add_li, nI_add, m_has, c_has, hI_0, bI_0, e138, m_sumU hw hm, m_sumT hw hm]
  rw [e, show LB P (LH P l) = BD P l from rfl, gA_sum]
  rfl
