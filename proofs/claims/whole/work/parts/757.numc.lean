/-! more numbers -/
def tC (P : Pg) (H : Nat → Int32) (v : Nat) : Nat := if H v = 1 then mC P v else if H v = 2 then rC P v else 0
theorem c_total {σ : Mm} {P : Pg} {H : Nat → Int32} {G : Int32} (hw : WP P) (hc : CP σ 1 4 P) (ha : AN σ P) (h : ∀ v, v < 12 → σ 98 v = H v) (hG : σ 97 11 = G) : fX5_totalCost σ = some (-G + nI (sm (tC P H) 12)) := by
  have e : qX5_totalCost_8 σ FU (-G, 0) = some (-G + nI (sm (tC P H) 12)) := by
    refine lp_fr (fun k => (-G + nI (sm (tC P H) k), nI k)) 12 (by show (-G + 0, nI 0) = _; rw [Int32.add_zero]; rfl) ?_ ?_ (fu (by omega))
    · intro k hk rec
      show gX5_totalCost_8 σ rec (-G + nI (sm (tC P H) k)) (nI k) = rec (-G + nI (sm (tC P H) k + tC P H k), nI (k + 1))
      generalize sm (tC P H) k = A
      unfold gX5_totalCost_8 tC
      simp (disch := omega) only [obs, bd, jn, bn2, un2, bn3, un3, bns, nI_1, nI_clamp, gN, gN0, gN1, gN2, gN3, nI_leI, nI_ltI, nI_eq, li_le, li_lt, le_li, lt_li, eq_li, li_eq, li_mul, mul_li, add_li, nI_add, m_has, c_has, hI_0, bI_0, if_neg, h k hk, c_memoryCost hw hc ha.2.1 ha.1, c_recost hw hc ha.2.1]
      rw [← nI_add A, ← Int32.add_assoc]
      by_cases c : H k = 1
      · rw [if_pos c, if_pos c]
      · rw [if_neg c, if_neg c]
        by_cases c2 : H k = 2
        · rw [if_pos c2, if_pos c2]
        · rw [if_neg c2, if_neg c2, show nI 0 = 0 from rfl, Int32.add_zero]
    · intro rec
      show gX5_totalCost_8 σ rec _ (nI 12) = _
      unfold gX5_totalCost_8
      simp (disch := omega) only [obs, bd, jn, bn2, un2, bn3, un3, bns, nI_1, nI_clamp, gN, gN0, gN1, gN2, gN3, nI_leI, nI_ltI, nI_eq, li_le, li_lt, le_li, lt_li, eq_li, li_eq, li_mul, mul_li, add_li, nI_add, m_has, c_has, hI_0, bI_0, if_pos]
  unfold fX5_totalCost
  rw [hG]
  simp only [bd]
  rw [e]
  rfl
theorem m_costs {σ : Mm} {P : Pg} {H : Nat → Int32} {G : Int32} (hw : WP P) (hm : MP σ 124 1 P) (h : ∀ v, v < 12 → σ 139 v = H v) (hG : σ 123 22 = G) : ∃ σ', fX10_costs σ = some (-G + nI (sm (tC P H) 12), σ') ∧ Fq [135] σ σ' := by
  unfold fX10_costs
  rw [m_layLive hw hm]
  simp only [obs]
  generalize hs : upm σ 135 (mLV P (σ 135)) = s
  have f : Fq [135] σ s := hs ▸ Fq_rf.up (by simp)
  have hm1 : MP s 124 1 P := hs ▸ hm.up (by omega)
  have hl : ML s P := fun t ht => by rw [← hs, upm_s]; exact if_pos ht
  have e : qX10_costs_12 s FU (-G, 0) = some (-G + nI (sm (tC P H) 12)) := by
    refine lp_fr (fun k => (-G + nI (sm (tC P H) k), nI k)) 12 (by show (-G + 0, nI 0) = _; rw [Int32.add_zero]; rfl) ?_ ?_ (fu (by omega))
    · intro k hk rec
      show gX10_costs_12 s rec (-G + nI (sm (tC P H) k)) (nI k) = rec (-G + nI (sm (tC P H) k + tC P H k), nI (k + 1))
      have hk1 : s 139 k = H k := by rw [f 139 (by simp)]; exact h k hk
      generalize sm (tC P H) k = A
      unfold gX10_costs_12 tC
      simp (disch := omega) only [obs, bd, jn, bn2, un2, bn3, un3, bns, nI_1, nI_clamp, gN, gN0, gN1, gN2, gN3, nI_leI, nI_ltI, nI_eq, li_le, li_lt, le_li, lt_li, eq_li, li_eq, li_mul, mul_li, add_li, nI_add, m_has, c_has, hI_0, bI_0, if_neg, hk1, m_memoryCost hw hm1 hl, m_all hm1, m_sumU hw hm1, sU_all hw]
      rw [← nI_add A, ← Int32.add_assoc]
      by_cases c : H k = 1
      · rw [if_pos c, if_pos c]
      · rw [if_neg c, if_neg c]
        by_cases c2 : H k = 2
        · rw [if_pos c2, if_pos c2]
        · rw [if_neg c2, if_neg c2]; rfl
    · intro rec
      show gX10_costs_12 s rec _ (nI 12) = _
      unfold gX10_costs_12
      simp (disch := omega) only [obs, bd, jn, bn2, un2, bn3, un3, bns, nI_1, nI_clamp, gN, gN0, gN1, gN2, gN3, nI_leI, nI_ltI, nI_eq, li_le, li_lt, le_li, lt_li, eq_li, li_eq, li_mul, mul_li, add_li, nI_add, m_has, c_has, hI_0, bI_0, if_pos]
  rw [f 123 (by simp), hG]
  simp only [bd]
  rw [e]
  exact ⟨s, rfl, f⟩
theorem m_promotions {σ : Mm} {st : PS} (h : MT σ st) : fX10_promotions σ = some (nI (nT st.1)) := by
  have e : qX10_promotions_4 σ FU (0, 0) = some (nI (nT st.1)) := by
    refine lp_fr (fun k => (nI (cnt (fun i => decide (0 ≤ st.1 (i / 8) (i % 8))) k), nI k)) 96 rfl ?_ ?_ (fu (by omega))
    · intro k hk rec
      show gX10_promotions_4 σ rec (nI (cnt _ k)) (nI k) = rec (nI (cnt _ (k + 1)), nI (k + 1))
      have ek : σ 142 k = st.1 (k / 8) (k % 8) := by
        have := h.1 (k / 8) (k % 8) (by omega) (by omega)
        rw [show 8 * (k / 8) + k % 8 = k by omega] at this
        exact this
      unfold gX10_promotions_4
      simp (disch := omega) only [obs, bd, jn, bn2, un2, bn3, un3, bns, nI_1, nI_clamp, gN, gN0, gN1, gN2, gN3, nI_leI, nI_ltI, nI_eq, li_le, li_lt, le_li, lt_li, eq_li, li_eq, li_mul, mul_li, add_li, nI_add, m_has, c_has, hI_0, bI_0, if_neg, ek]
      rw [cnt_s]
      by_cases c : st.1 (k / 8) (k % 8) < 0
      · rw [if_pos c, decide_eq_false (Int32.not_le.mpr c)]; rfl
      · rw [if_neg c, decide_eq_true (Int32.not_lt.mp c)]; rfl
    · intro rec
      show gX10_promotions_4 σ rec _ (nI 96) = _
      unfold gX10_promotions_4
      simp (disch := omega) only [obs, bd, jn, bn2, un2, bn3, un3, bns, nI_1, nI_clamp, gN, gN0, gN1, gN2, gN3, nI_leI, nI_ltI, nI_eq, li_le, li_lt, le_li, lt_li, eq_li, li_eq, li_mul, mul_li, add_li, nI_add, m_has, c_has, hI_0, bI_0, if_pos]
      rfl
  unfold fX10_promotions
  rw [e]
  rfl
/-! pressure -/
def pz (P : Pg) (b i x : Nat) : Nat := max x (cnt (hb (lv P (LV P) b i)) 12)
def py (P : Pg) (b x : Nat) : Nat := itr (pz P b) x (P_m P b + 1)
theorem pz_le {P : Pg} {b x : Nat} (hx : x ≤ 12) (i : Nat) : itr (pz P b) x i ≤ 12 := by
  induction i with
  | zero => exact hx
  | succ i ih =>
    show max (itr (pz P b) x i) (cnt (hb (lv P (LV P) b i)) 12) ≤ 12
    have := @cnt_le (hb (lv P (LV P) b i)) 12
    omega
theorem py_le {P : Pg} (n : Nat) : itr (py P) 0 n ≤ 12 := by
  induction n with
  | zero => exact Nat.zero_le _
  | succ n ih => exact pz_le ih _
theorem mxq : ∀ m, m ≤ 12 → ∀ c, c ≤ 12 → mx (nI m) (nI c) = nI (max m c) := by decide +kernel
theorem c_pressure {σ : Mm} {P : Pg} (hw : WP P) (hc : CP σ 1 4 P) (ha : AN σ P) : fX1_greatestLive σ = some (nI (itr (py P) 0 (P_n P))) := by
  have hn := hw.1.2
  have c1 := hc.1
  have c3 := hc.2.2.1
  have e1 : ∀ b x, b < P_n P → x ≤ 12 → qX1_greatestLive_17 σ (nI b) FU (nI x, 0) = some (nI (py P b x)) := by
    intro b x hb' hx
    have h8 := hw.2.1 b (by omega)
    refine lp_fr (fun i => (nI (itr (pz P b) x i), nI i)) (P_m P b + 1) rfl ?_ ?_ (fu (by omega))
    · intro i hi rec
      show gX1_greatestLive_17 σ (nI b) rec (nI (itr (pz P b) x i)) (nI i) = rec (nI (pz P b i (itr (pz P b) x i)), nI (i + 1))
      have e88 := ha.1 b hb' i (by omega)
      have hle := @pz_le P b x hx i
      have hcn := @cnt_le (hb (lv P (LV P) b i)) 12
      unfold gX1_greatestLive_17
      simp (disch := omega) only [obs, bd, jn, bn2, un2, bn3, un3, bns, nI_1, nI_clamp, gN, gN0, gN1, gN2, gN3, nI_leI, nI_ltI, nI_eq, li_le, li_lt, le_li, lt_li, eq_li, li_eq, li_mul, mul_li, add_li, nI_add, m_has, c_has, hI_0, bI_0, if_neg, c3, e88, c_bits (lo_LVv hw (show b < 8 by omega))]
      rw [mxq _ hle _ hcn]
      rfl
    · intro rec
      show gX1_greatestLive_17 σ (nI b) rec _ (nI (P_m P b + 1)) = _
      unfold gX1_greatestLive_17
      simp (disch := omega) only [obs, bd, jn, bn2, un2, bn3, un3, bns, nI_1, nI_clamp, gN, gN0, gN1, gN2, gN3, nI_leI, nI_ltI, nI_eq, li_le, li_lt, le_li, lt_li, eq_li, li_eq, li_mul, mul_li, add_li, nI_add, m_has, c_has, hI_0, bI_0, c3, if_pos]
      rfl
  have e2 : qX1_greatestLive_4 σ FU (0, 0) = some (nI (itr (py P) 0 (P_n P))) := by
    refine lp_fr (fun b => (nI (itr (py P) 0 b), nI b)) (P_n P) rfl ?_ ?_ (fu (by omega))
    · intro b hb' rec
      show gX1_greatestLive_4 σ rec (nI (itr (py P) 0 b)) (nI b) = rec (nI (py P b (itr (py P) 0 b)), nI (b + 1))
      have hle := @py_le P b
      unfold gX1_greatestLive_4
      simp (disch := omega) only [obs, bd, jn, bn2, un2, bn3, un3, bns, nI_1, nI_clamp, gN, gN0, gN1, gN2, gN3, nI_leI, nI_ltI, nI_eq, li_le, li_lt, le_li, lt_li, eq_li, li_eq, li_mul, mul_li, add_li, nI_add, m_has, c_has, hI_0, bI_0, if_neg, c1, e1]
    · intro rec
      show gX1_greatestLive_4 σ rec _ (nI (P_n P)) = _
      unfold gX1_greatestLive_4
      simp (disch := omega) only [obs, bd, jn, bn2, un2, bn3, un3, bns, nI_1, nI_clamp, gN, gN0, gN1, gN2, gN3, nI_leI, nI_ltI, nI_eq, li_le, li_lt, le_li, lt_li, eq_li, li_eq, li_mul, mul_li, add_li, nI_add, m_has, c_has, hI_0, bI_0, c1, if_pos]
  unfold fX1_greatestLive
  rw [e2]
  rfl
theorem m_pressure {σ : Mm} {P : Pg} (hw : WP P) (hm : MP σ 124 1 P) : ∃ σ', fX10_pressure σ = some (nI (itr (py P) 0 (P_n P)), σ') ∧ Fq [135] σ σ' := by
  have hn := hw.1.2
  unfold fX10_pressure
  rw [m_layLive hw hm]
  simp only [obs]
  generalize hs : upm σ 135 (mLV P (σ 135)) = s
  have f : Fq [135] σ s := hs ▸ Fq_rf.up (by simp)
  have hm1 : MP s 124 1 P := hs ▸ hm.up (by omega)
  have hl : ML s P := fun t ht => by rw [← hs, upm_s]; exact if_pos ht
  have m1 := hm1.1
  have m3 := hm1.2.2.1
  have e1 : ∀ b x, b < P_n P → x ≤ 12 → qX10_pressure_18 s (nI b) FU (nI x, 0) = some (nI (py P b x)) := by
    intro b x hb' hx
    have h8 := hw.2.1 b (by omega)
    refine lp_fr (fun i => (nI (itr (pz P b) x i), nI i)) (P_m P b + 1) rfl ?_ ?_ (fu (by omega))
    · intro i hi rec
      show gX10_pressure_18 s (nI b) rec (nI (itr (pz P b) x i)) (nI i) = rec (nI (pz P b i (itr (pz P b) x i)), nI (i + 1))
      have e0 := m_liveOf hw hm1 (b := b) (i := i) (by omega) (by omega)
      rw [lv_cg hl] at e0
      have hle := @pz_le P b x hx i
      have hcn := @cnt_le (hb (lv P (LV P) b i)) 12
      unfold gX10_pressure_18
      simp (disch := omega) only [obs, bd, jn, bn2, un2, bn3, un3, bns, nI_1, nI_clamp, gN, gN0, gN1, gN2, gN3, nI_leI, nI_ltI, nI_eq, li_le, li_lt, le_li, lt_li, eq_li, li_eq, li_mul, mul_li, add_li, nI_add, m_has, c_has, hI_0, bI_0, if_neg, m3, e0, m_bits]
      rw [mxq _ hle _ hcn]
      rfl
    · intro rec
      show gX10_pressure_18 s (nI b) rec _ (nI (P_m P b + 1)) = _
      unfold gX10_pressure_18
      simp (disch := omega) only [obs, bd, jn, bn2, un2, bn3, un3, bns, nI_1, nI_clamp, gN, gN0, gN1, gN2, gN3, nI_leI, nI_ltI, nI_eq, li_le, li_lt, le_li, lt_li, eq_li, li_eq, li_mul, mul_li, add_li, nI_add, m_has, c_has, hI_0, bI_0, m3, if_pos]
      rfl
  have e2 : qX10_pressure_8 s FU (0, 0) = some (nI (itr (py P) 0 (P_n P))) := by
    refine lp_fr (fun b => (nI (itr (py P) 0 b), nI b)) (P_n P) rfl ?_ ?_ (fu (by omega))
    · intro b hb' rec
      show gX10_pressure_8 s rec (nI (itr (py P) 0 b)) (nI b) = rec (nI (py P b (itr (py P) 0 b)), nI (b + 1))
      have hle := @py_le P b
      unfold gX10_pressure_8
      simp (disch := omega) only [obs, bd, jn, bn2, un2, bn3, un3, bns, nI_1, nI_clamp, gN, gN0, gN1, gN2, gN3, nI_leI, nI_ltI, nI_eq, li_le, li_lt, le_li, lt_li, eq_li, li_eq, li_mul, mul_li, add_li, nI_add, m_has, c_has, hI_0, bI_0, if_neg, m1, e1]
    · intro rec
      show gX10_pressure_8 s rec _ (nI (P_n P)) = _
      unfold gX10_pressure_8
      simp (disch := omega) only [obs, bd, jn, bn2, un2, bn3, un3, bns, nI_1, nI_clamp, gN, gN0, gN1, gN2, gN3, nI_leI, nI_ltI, nI_eq, li_le, li_lt, le_li, lt_li, eq_li, li_eq, li_mul, mul_li, add_li, nI_add, m_has, c_has, hI_0, bI_0, m1, if_pos]
  rw [e2]
  exact ⟨s, rfl, f⟩
/-! depth -/
def dpt (P : Pg) (l : Nat) : Nat := cnt (fun m => !decide (m = l) && wn P l m) (LC P)
theorem c_depth {σ : Mm} {P : Pg} (hw : WP P) (hl' : LPs σ 94 95 96 3 P) {l : Nat} (hl : l < LC P) : fX2_depth σ (nI l) = some (nI (dpt P l)) := by
  have h8 := LC_le hw
  have l3 := hl'.1
  have e : qX2_depth_4 σ (nI l) FU (0, 0) = some (nI (dpt P l)) := by
    refine lp_fr (fun m => (nI (cnt (fun m => !decide (m = l) && wn P l m) m), nI m)) (LC P) rfl ?_ ?_ (fu (by omega))
    · intro m hm rec
      show gX2_depth_4 σ (nI l) rec (nI (cnt _ m)) (nI m) = rec (nI (cnt _ (m + 1)), nI (m + 1))
      rw [cnt_s]
      unfold gX2_depth_4
      simp (disch := omega) only [obs, bd, jn, bn2, un2, bn3, un3, bns, nI_1, nI_clamp, gN, gN0, gN1, gN2, gN3, nI_leI, nI_ltI, nI_eq, li_le, li_lt, le_li, lt_li, eq_li, li_eq, li_mul, mul_li, add_li, nI_add, m_has, c_has, hI_0, bI_0, if_neg, l3, c_within hw hl' hl hm]
      by_cases c : m = l
      · rw [if_pos c, decide_eq_true c]; rfl
      · rw [if_neg c, decide_eq_false c]
        cases wn P l m <;> simp
    · intro rec
      show gX2_depth_4 σ (nI l) rec _ (nI (LC P)) = _
      unfold gX2_depth_4
      simp (disch := omega) only [obs, bd, jn, bn2, un2, bn3, un3, bns, nI_1, nI_clamp, gN, gN0, gN1, gN2, gN3, nI_leI, nI_ltI, nI_eq, li_le, li_lt, le_li, lt_li, eq_li, li_eq, li_mul, mul_li, add_li, nI_add, m_has, c_has, hI_0, bI_0, l3, if_pos]
      rfl
  unfold fX2_depth
  rw [e]
  rfl
theorem m_depth {σ : Mm} {P : Pg} {y : Int32} (hw : WP P) (hl' : LPs σ 123 137 138 17 P) {l : Nat} (hl : l < LC P) : qX10_loop_49 σ (nI l) y FU (0, 0) = some (nI (dpt P l)) := by
  have h8 := LC_le hw
  have l3 := hl'.1
  refine lp_fr (fun m => (nI (cnt (fun m => !decide (m = l) && wn P l m) m), nI m)) (LC P) rfl ?_ ?_ (fu (by omega))
  · intro m hm rec
    show gX10_loop_49 σ (nI l) y rec (nI (cnt _ m)) (nI m) = rec (nI (cnt _ (m + 1)), nI (m + 1))
    rw [cnt_s]
    unfold gX10_loop_49
    simp (disch := omega) only [obs, bd, jn, bn2, un2, bn3, un3, bns, nI_1, nI_clamp, gN, gN0, gN1, gN2, gN3, nI_leI, nI_ltI, nI_eq, li_le, li_lt, le_li, lt_li, eq_li, li_eq, li_mul, mul_li, add_li, nI_add, m_has, c_has, hI_0, bI_0, if_neg, l3, m_within hw hl' hl hm]
    by_cases c : m = l
    · rw [if_pos c, decide_eq_true c]; rfl
    · rw [if_neg c, decide_eq_false c]
      cases wn P l m <;> simp
  · intro rec
    show gX10_loop_49 σ (nI l) y rec _ (nI (LC P)) = _
    unfold gX10_loop_49
    simp (disch := omega) only [obs, bd, jn, bn2, un2, bn3, un3, bns, nI_1, nI_clamp, gN, gN0, gN1, gN2, gN3, nI_leI, nI_ltI, nI_eq, li_le, li_lt, le_li, lt_li, eq_li, li_eq, li_mul, mul_li, add_li, nI_add, m_has, c_has, hI_0, bI_0, l3, if_pos]
    rfl
/-! enough -/
theorem mxc_cg {S S' : Nat → Bool} {R : Nat → Int32} (h : ∀ v, v < 12 → S v = S' v) : ∀ k, k ≤ 12 → mxc S R k = mxc S' R k := by
  intro k
  induction k with
  | zero => intro _; rfl
  | succ k ih =>
    intro hk
    simp only [mxc]
    rw [ih (by omega), CG_cg h (fun _ _ => rfl) k (by omega), h k (by omega)]
theorem mx1 : ∀ m, m ≤ 12 → mx 1 (nI m) = nI (max 1 m) := by decide +kernel
theorem CP_fz {S : List Nat} {σ σ' : Mm} {P : Pg} (h : Fq S σ σ') (hs : ∀ j, j ∈ S → j = 0 ∨ 44 ≤ j) (hc : CP σ 1 4 P) : CP σ' 1 4 P := CP_cg (fun k h1 h2 => h k (fun q => by have := hs k q; omega)) hc
theorem c_enough {σ : Mm} {P : Pg} (hw : WP P) (hc : CP σ 1 4 P) (h : σ 0 13 = 0 ∨ (σ 0 13 = 1 ∧ AN σ P)) : ∃ σ', fX9_enough σ = some (nI (max 1 (mxc (uV P) (RV P) 12)), σ') ∧ Fq [0, 88, 89, 90, 91, 92, 93, 94, 95, 96, 120] σ σ' ∧ (∀ i, i ≠ 13 → σ' 0 i = σ 0 i) ∧ σ' 0 13 = 1 ∧ AN σ' P := by
  obtain ⟨s1, e1, f1, i1, t1, a1⟩ := c_analyse hw hc h
  unfold fX9_enough
  rw [e1]
  simp only [obs]
  rw [c_used hw (CP_fz f1 (by simp) hc) a1.2.1]
  simp only [obs]
  rw [c_colour (S := uV P) (R := RV P) (show (120 : Nat) ≠ 91 by omega) (fun v hv => hb_UV hv) a1.2.2.1]
  simp only [obs]
  rw [c_inUse (S := uV P) (R := RV P) (fun v hv => by rw [upm_s]; exact if_pos hv)]
  simp only [obs]
  rw [mx1 _ (mxc_le 12 (Nat.le_refl _))]
  refine ⟨_, rfl, (f1.wk (by simp)).up (by simp), fun i hi => by rw [upm_n (by omega)]; exact i1 i hi, by rw [upm_n (by omega)]; exact t1, a1.up (by omega)⟩
