/-! promotion in all loops, and the plan -/
def pa1 (P : Pg) (H : Nat → Int32) (k : Nat) (a : Int32 × PS) : Int32 × PS := (a.1 ||| b1 (nxs P a.1 (LC P)), itr (ps1 P H k (nxs P a.1 (LC P))) a.2 12)
def pa (P : Pg) (H : Nat → Int32) (k r : Nat) : Int32 × PS := itr (fun _ => pa1 P H k) (0, (fun _ _ => -1), 0, 0) r
def PT (P : Pg) (H : Nat → Int32) (k : Nat) : PS := (pa P H k (LC P)).2
def nT (T : Nat → Nat → Int32) : Nat := cnt (fun i => decide (0 ≤ T (i / 8) (i % 8))) 96
theorem cnt_s {p : Nat → Bool} {k : Nat} : cnt p (k + 1) = cnt p k + (p k).toNat := by
  show cnt p k + (if p k = true then 1 else 0) = _
  by_cases h : p k = true
  · rw [if_pos h, h]; rfl
  · rw [if_neg h, Bool.eq_false_iff.mpr h]; rfl
theorem cnt_or1 {d : Int32} {l : Nat} (hl : l < 32) : ∀ n, cnt (fun k => hb (d ||| b1 l) k) n ≤ cnt (fun k => hb d k) n + (if l < n then 1 else 0) := by
  intro n
  induction n with
  | zero => simp [cnt]
  | succ n ih =>
    rw [cnt_s, cnt_s, hb_or, hb_b1 hl]
    by_cases c : l = n
    · subst c
      rw [if_neg (by omega)] at ih
      rw [if_pos (by omega)]
      cases hb d l <;> simp <;> omega
    · rw [decide_eq_false c, Bool.or_false]
      by_cases c2 : l < n
      · rw [if_pos c2] at ih
        rw [if_pos (by omega)]
        omega
      · rw [if_neg c2] at ih
        rw [if_neg (by omega)]
        omega
theorem wn_rf {P : Pg} {l : Nat} : wn P l l = true := decide_eq_true (z_iff.mpr (fun i => by
  rcases Nat.lt_or_ge i 32 with q | q
  · rw [hb_and, hb_not q]
    cases hb (BD P l) i <;> rfl
  · exact hb_big q))
theorem elw_m1 {P : Pg} {T : Nat → Nat → Int32} {v l : Nat} (hl : l < LC P) (h : elw P T v l = false) : T v l = -1 := by
  apply Classical.byContradiction
  intro q
  have : elw P T v l = true := anyF_iff.mpr ⟨l, hl, by rw [decide_eq_false q, wn_rf]; rfl⟩
  rw [h] at this; cases this
theorem ps1_nT {P : Pg} {H : Nat → Int32} {k l v : Nat} {st : PS} (hw : WP P) (hk : k ≤ 12) (hl : l < LC P) (hv : v < 12) (hn : nT st.1 = st.2.2) : nT (ps1 P H k l v st).1 = (ps1 P H k l v st).2.2 := by
  have h8 := LC_le hw
  unfold ps1
  split
  · next c =>
    have hm1 := elw_m1 hl c.2.2.1
    show nT (upT st.1 v l _) = st.2.2 + 1
    rw [← hn]
    refine (cnt_dr (m := 8 * v + l) ?_ ?_ ?_ 96 (by omega)).symm
    · have e1 : (8 * v + l) / 8 = v := by omega
      have e2 : (8 * v + l) % 8 = l := by omega
      rw [e1, e2]
      unfold upT
      rw [if_pos ⟨rfl, rfl⟩]
      exact decide_eq_true ((li_le (c := 0) (by decide) (by omega)).mpr (Nat.zero_le _))
    · have e1 : (8 * v + l) / 8 = v := by omega
      have e2 : (8 * v + l) % 8 = l := by omega
      rw [e1, e2, hm1]
      decide
    · intro u hu
      unfold upT
      rw [if_neg (by omega)]
  · exact hn
theorem pa_inv {P : Pg} {H : Nat → Int32} {k : Nat} (hw : WP P) (hk : k ≤ 12) : ∀ r, r ≤ LC P → okT P k (pa P H k r).2.1 ∧ cnt (fun l => hb (pa P H k r).1 l) (LC P) ≤ r ∧ nT (pa P H k r).2.1 = (pa P H k r).2.2.2 := by
  have h8 := LC_le hw
  intro r
  induction r with
  | zero =>
    intro _
    refine ⟨fun v l _ _ => Or.inl rfl, ?_, ?_⟩
    · rw [show (pa P H k 0).1 = 0 from rfl, cnt_0.mpr (fun i _ => hb_0 i)]; exact Nat.le_refl _
    · show cnt _ 96 = 0
      exact cnt_0.mpr (fun i _ => by show decide ((0 : Int32) ≤ -1) = false; decide)
  | succ r ih =>
    intro hr
    obtain ⟨i1, i2, i3⟩ := ih (by omega)
    have hx : nxs P (pa P H k r).1 (LC P) < LC P := by
      rcases nxs_sp (P := P) (d := (pa P H k r).1) (LC P) h8 with ⟨-, h2⟩ | h1
      · exfalso
        have : cnt (fun _ => true) (LC P) ≤ cnt (fun l => hb (pa P H k r).1 l) (LC P) := cnt_mono (fun l hl _ => h2 l hl)
        have e : ∀ n, cnt (fun _ => true) n = n := by
          intro n
          induction n with
          | zero => rfl
          | succ n ih => simp only [cnt, ih]; simp
        rw [e] at this
        omega
      · exact h1
    refine ⟨itr_ok hx i1 12, ?_, ?_⟩
    · have := cnt_or1 (d := (pa P H k r).1) (l := nxs P (pa P H k r).1 (LC P)) (by omega) (LC P)
      rw [if_pos hx] at this
      show cnt (fun l => hb ((pa P H k r).1 ||| b1 (nxs P (pa P H k r).1 (LC P))) l) (LC P) ≤ r + 1
      omega
    · exact itr_inv (f := ps1 P H k (nxs P (pa P H k r).1 (LC P))) (a := (pa P H k r).2) (n := 12) (fun _ st => nT st.1 = st.2.2) i3 (fun v st hv h => ps1_nT hw hk hx hv h) 12 (Nat.le_refl _)
theorem pa_nx {P : Pg} {H : Nat → Int32} {k r : Nat} (hw : WP P) (hk : k ≤ 12) (hr : r < LC P) : nxs P (pa P H k r).1 (LC P) < LC P := by
  have h8 := LC_le hw
  obtain ⟨-, i2, -⟩ := pa_inv (H := H) hw hk r (by omega)
  rcases nxs_sp (P := P) (d := (pa P H k r).1) (LC P) h8 with ⟨-, h2⟩ | h1
  · exfalso
    have := cnt_full (p := fun l => !hb (pa P H k r).1 l) (n := 0) (Nat.zero_le _)
    have : cnt (fun _ => true) (LC P) ≤ cnt (fun l => hb (pa P H k r).1 l) (LC P) := cnt_mono (fun l hl _ => h2 l hl)
    have e : ∀ n, cnt (fun _ => true) n = n := by
      intro n
      induction n with
      | zero => rfl
      | succ n ih => simp only [cnt, ih]; simp
    rw [e] at this
    omega
  · exact h1
theorem c_promoteAll {σ : Mm} {P : Pg} {k : Nat} {H : Nat → Int32} (hw : WP P) (hb' : CB σ P H k) (hk : k ≤ 12) : ∃ σ', fX5_promoteAll σ = some σ' ∧ Fq [97, 101] σ σ' ∧ (∀ i, i ≠ 10 → i ≠ 11 → σ' 97 i = σ 97 i) ∧ CT σ' (PT P H k) := by
  have h8 := LC_le hw
  unfold fX5_promoteAll
  rw [c_fill (by omega)]
  simp only [obs, bd]
  generalize hs3 : upm (upm (upm σ 101 (fun x => if x < 96 then -1 else σ 101 x)) 97 (upd (upm σ 101 (fun x => if x < 96 then -1 else σ 101 x) 97) 10 0)) 97 _ = s3
  have f3 : Fq [97, 101] σ s3 := hs3 ▸ ((Fq_rf.up (by simp)).up (by simp)).up (by simp)
  have i3 : ∀ i, i ≠ 10 → i ≠ 11 → s3 97 i = σ 97 i := fun i a b => by
    rw [← hs3, upm_s, upd_a, if_neg b, upm_s, upd_a, if_neg a, upm_n (by omega)]
  have t3 : CT s3 (pa P H k 0).2 := by
    refine ⟨fun v l hv hl => ?_, ?_, ?_⟩
    · rw [← hs3, upm_n (by omega), upm_n (by omega), upm_s, if_pos (by omega)]; rfl
    · rw [← hs3, upm_s, upd_a, if_pos rfl]; rfl
    · rw [← hs3, upm_s, upd_a, if_neg (by omega), upm_s, upd_a, if_pos rfl]; rfl
  have key : ∃ σ', qX5_promoteAll_22 FU (s3, 0, 0) = some σ' ∧ (Fq [97, 101] σ σ' ∧ (∀ i, i ≠ 10 → i ≠ 11 → σ' 97 i = σ 97 i) ∧ CT σ' (PT P H k)) := by
    refine lp_inv3 (fun r s d => Fq [97, 101] σ s ∧ (∀ i, i ≠ 10 → i ≠ 11 → s 97 i = σ 97 i) ∧ d = (pa P H k r).1 ∧ CT s (pa P H k r).2) (LC P) _ ?_ ?_ ⟨f3, i3, rfl, t3⟩ (fu (by omega))
    · rintro r s d hr ⟨g1, g2, rfl, g4⟩
      have hx := pa_nx (H := H) hw hk hr
      have hb2 := CB_fq g1 g2 hb'
      have l3 := hb2.2.1.2.2.2.1
      have eN := c_next (d := (pa P H k r).1) hw hb2.1 hb2.2.1.2.2.2
      rw [if_neg (show ¬ nxs P (pa P H k r).1 (LC P) = 8 by omega)] at eN
      obtain ⟨s', e, q1, q2, q3⟩ := c_pl (x := (pa P H k r).1 ||| 1 <<< (nI (nxs P (pa P H k r).1 (LC P)) &&& 31)) (y := nI r) hw hb2 hk (pa_inv (H := H) hw hk r (by omega)).1 g4 hx
      refine ⟨s', _, fun rec => ?_, g1.tr q1 (by simp), fun i a b => (q2 i a b).trans (g2 i a b), rfl, q3⟩
      show gX5_promoteAll_22 rec s (pa P H k r).1 (nI r) = rec (s', (pa P H k r).1 ||| b1 (nxs P (pa P H k r).1 (LC P)), nI (r + 1))
      unfold gX5_promoteAll_22
      simp (disch := omega) only [obs, bd, jn, bn2, un2, bn3, un3, bns, nI_1, nI_clamp, gN, gN0, gN1, gN2, gN3, nI_leI, nI_ltI, nI_eq, li_le, li_lt, le_li, lt_li, eq_li, li_eq, li_mul, mul_li, add_li, nI_add, m_has, c_has, hI_0, bI_0, if_neg, l3, eN, e]
      rfl
    · rintro s d ⟨g1, g2, rfl, g4⟩
      have l3 := (CB_fq g1 g2 hb').2.1.2.2.2.1
      refine ⟨s, fun rec => ?_, g1, g2, g4⟩
      show gX5_promoteAll_22 rec s _ (nI (LC P)) = _
      unfold gX5_promoteAll_22
      simp (disch := omega) only [obs, bd, jn, bn2, un2, bn3, un3, bns, nI_1, nI_clamp, gN, gN0, gN1, gN2, gN3, nI_leI, nI_ltI, nI_eq, li_le, li_lt, le_li, lt_li, eq_li, li_eq, li_mul, mul_li, add_li, nI_add, m_has, c_has, hI_0, bI_0, l3, if_pos]
  obtain ⟨s, e, q⟩ := key
  refine ⟨s, ?_, q⟩
  rw [e]
  rfl
/-- the model, before promotion: all but the loops -/
theorem m_promotesAll {σ : Mm} {P : Pg} {k : Nat} {H : Nat → Int32} (hw : WP P) (hm : MA σ P) (hH : ∀ v, v < 12 → σ 139 v = H v) (hC : ∀ v, v < 12 → σ 140 v = cv (sA H 0) (RV P) v) (h20 : σ 123 20 = nI k) (hk : k ≤ 12) : ∃ σ', fX10_promotesAll σ = some σ' ∧ Fq [123, 137, 138, 142] σ σ' ∧ (∀ i, i ≠ 17 → i ≠ 22 → σ' 123 i = σ 123 i) ∧ MB σ' P H k ∧ MT σ' (PT P H k) := by
  have h8 := LC_le hw
  obtain ⟨s1, e1, f1, i1, l1⟩ := m_loops hw hm.1
  unfold fX10_promotesAll
  rw [e1]
  simp only [obs, bd]
  generalize hs2 : upm s1 123 (upd (s1 123) 22 0) = s2
  have f2 : Fq [123, 137, 138, 142] σ s2 := hs2 ▸ (f1.wk (by simp)).up (by simp)
  have i2 : ∀ i, i ≠ 17 → i ≠ 22 → s2 123 i = σ 123 i := fun i a b => by rw [← hs2, upm_s, upd_a, if_neg b]; exact i1 i a
  have b2 : MB s2 P H k := by
    refine ⟨⟨MP_fq f2 (by simp) (i2 1 (by omega) (by omega)) hm.1, fun t ht => ?_, fun v hv => ?_⟩, ⟨?_, fun l hl => ?_⟩, fun v hv => ?_, fun v hv => ?_, ?_⟩
    · rw [f2 135 (by simp)]; exact hm.2.1 t ht
    · rw [f2 136 (by simp)]; exact hm.2.2 v hv
    · rw [← hs2, upm_s, upd_a, if_neg (by omega)]; exact l1.1
    · rw [← hs2, upm_n (by omega), upm_n (by omega)]; exact l1.2 l hl
    · rw [f2 139 (by simp)]; exact hH v hv
    · rw [f2 140 (by simp)]; exact hC v hv
    · rw [i2 20 (by omega) (by omega)]; exact h20
  have e3 : qX10_promotesAll_11 FU (s2, 0) = some (upm s2 142 (fun x => if x < 96 then -1 else s2 142 x)) := by
    refine lp_fr (fun k => (upm s2 142 (fun x => if x < k then -1 else s2 142 x), nI k)) 96 (by simp [upm_id]; rfl) ?_ ?_ (fu (by omega))
    · intro k hk rec
      show gX10_promotesAll_11 rec (upm s2 142 (fun x => if x < k then -1 else s2 142 x)) (nI k) = rec (upm s2 142 (fun x => if x < k + 1 then -1 else s2 142 x), nI (k + 1))
      unfold gX10_promotesAll_11
      simp (disch := omega) only [obs, bd, jn, bn2, un2, bn3, un3, bns, nI_1, nI_clamp, gN, gN0, gN1, gN2, gN3, nI_leI, nI_ltI, nI_eq, li_le, li_lt, le_li, lt_li, eq_li, li_eq, li_mul, mul_li, add_li, nI_add, m_has, c_has, hI_0, bI_0, if_neg, upm_s, upm_u]
      congr 3
      funext x
      rw [upd_a]
      by_cases h1 : x = k
      · rw [if_pos h1, if_pos (by omega)]
      · rw [if_neg h1]
        by_cases h2 : x < k
        · rw [if_pos h2, if_pos (by omega)]
        · rw [if_neg h2, if_neg (by omega)]
    · intro rec
      show gX10_promotesAll_11 rec (upm s2 142 (fun x => if x < 96 then -1 else s2 142 x)) (nI 96) = _
      unfold gX10_promotesAll_11
      simp (disch := omega) only [obs, bd, jn, bn2, un2, bn3, un3, bns, nI_1, nI_clamp, gN, gN0, gN1, gN2, gN3, nI_leI, nI_ltI, nI_eq, li_le, li_lt, le_li, lt_li, eq_li, li_eq, li_mul, mul_li, add_li, nI_add, m_has, c_has, hI_0, bI_0, if_pos]
  rw [e3]
  simp only [obs]
  generalize hs3 : upm s2 142 (fun x => if x < 96 then -1 else s2 142 x) = s3
  have f3 : Fq [123, 142] s2 s3 := hs3 ▸ Fq_rf.up (by simp)
  have z3 : s3 123 = s2 123 := by rw [← hs3, upm_n (by omega)]
  have t3 : MT s3 (pa P H k 0).2 := by
    refine ⟨fun v l hv hl => ?_, ?_⟩
    · rw [← hs3, upm_s, if_pos (by omega)]; rfl
    · rw [z3, ← hs2, upm_s, upd_a, if_pos rfl]; rfl
  have key : ∃ σ', qX10_promotesAll_34 FU (s3, 0, 0) = some σ' ∧ (Fq [123, 142] s2 σ' ∧ (∀ i, i ≠ 22 → σ' 123 i = s2 123 i) ∧ MT σ' (PT P H k)) := by
    refine lp_inv3 (fun r s d => Fq [123, 142] s2 s ∧ (∀ i, i ≠ 22 → s 123 i = s2 123 i) ∧ d = (pa P H k r).1 ∧ MT s (pa P H k r).2) (LC P) _ ?_ ?_ ⟨f3, fun i _ => by rw [z3], rfl, t3⟩ (fu (by omega))
    · rintro r s d hr ⟨g1, g2, rfl, g4⟩
      have hx := pa_nx (H := H) hw hk hr
      have hb2 := MB_fq g1 g2 b2
      have l3 := hb2.2.1.1
      have eN := m_next (d := (pa P H k r).1) (y := nI r) hw hb2.1.1 hb2.2.1
      rw [if_neg (show ¬ nxs P (pa P H k r).1 (LC P) = 8 by omega)] at eN
      obtain ⟨s', e, q1, q2, q3⟩ := m_pl hw hb2 hk (pa_inv (H := H) hw hk r (by omega)).1 g4 hx
      refine ⟨s', _, fun rec => ?_, g1.tr q1 (by simp), fun i a => (q2 i a).trans (g2 i a), rfl, q3⟩
      show gX10_promotesAll_34 rec s (pa P H k r).1 (nI r) = rec (s', (pa P H k r).1 ||| b1 (nxs P (pa P H k r).1 (LC P)), nI (r + 1))
      unfold gX10_promotesAll_34
      simp (disch := omega) only [obs, bd, jn, bn2, un2, bn3, un3, bns, nI_1, nI_clamp, gN, gN0, gN1, gN2, gN3, nI_leI, nI_ltI, nI_eq, li_le, li_lt, le_li, lt_li, eq_li, li_eq, li_mul, mul_li, add_li, nI_add, m_has, c_has, hI_0, bI_0, if_neg, l3, eN, e]
      rfl
    · rintro s d ⟨g1, g2, rfl, g4⟩
      have l3 := (MB_fq g1 g2 b2).2.1.1
      refine ⟨s, fun rec => ?_, g1, g2, g4⟩
      show gX10_promotesAll_34 rec s _ (nI (LC P)) = _
      unfold gX10_promotesAll_34
      simp (disch := omega) only [obs, bd, jn, bn2, un2, bn3, un3, bns, nI_1, nI_clamp, gN, gN0, gN1, gN2, gN3, nI_leI, nI_ltI, nI_eq, li_le, li_lt, le_li, lt_li, eq_li, li_eq, li_mul, mul_li, add_li, nI_add, m_has, c_has, hI_0, bI_0, l3, if_pos]
  obtain ⟨s, e, q1, q2, q3⟩ := key
  refine ⟨s, ?_, f2.tr q1 (by simp), fun i a b => (q2 i b).trans (i2 i a b), MB_fq q1 q2 b2, q3⟩
  rw [e]
  rfl
/-! the slots of the model -/
theorem m_slots {σ : Mm} {P : Pg} {H : Nat → Int32} (hw : WP P) (hR : ∀ v, v < 12 → σ 136 v = RV P v) (hH : ∀ v, v < 12 → σ 139 v = H v) (h21 : σ 123 21 = 0) (hN : ∀ v, v < 12 → σ 141 v = -1) : ∃ σ', qX10_plan_53 FU (σ, 0) = some σ' ∧ (Fq [123, 141] σ σ' ∧ (∀ i, i ≠ 21 → σ' 123 i = σ 123 i) ∧ σ' 123 21 = nI (mxc (sA H 1) (RV P) 12) ∧ ∀ v, v < 12 → σ' 141 v = cv (sA H 1) (RV P) v) := by
  refine lp_inv2 (fun k s => Fq [123, 141] σ s ∧ (∀ i, i ≠ 21 → s 123 i = σ 123 i) ∧ s 123 21 = nI (mxc (sA H 1) (RV P) k) ∧ ∀ v, v < 12 → s 141 v = if v < k then cv (sA H 1) (RV P) v else -1) 12 _ ?_ ?_ ⟨Fq_rf, fun _ _ => rfl, h21, fun v hv => by rw [if_neg (by omega)]; exact hN v hv⟩ (fu (by omega))
  · rintro k s hk ⟨g1, g2, g3, g4⟩
    have hlo := tk_lo12 (S := sA H 1) (R := RV P) hk
    have e2 := m_lowest (σ := s) (S := sA H 1) (R := RV P) (C := CG (sA H 1) (RV P)) (v := k) (a := 141) (w := 1) hk (by rw [g1 136 (by simp)]; exact hR k hk) (fun u hu => by rw [g1 139 (by simp), hH u (by omega)]; exact decide_eq_true_iff.symm) (fun u hu q => by rw [g4 u (by omega), if_pos hu]; exact if_pos q) hlo
    rw [← CG_eq hk] at e2
    have h1 := @mxc_le (sA H 1) (RV P) k (by omega)
    have h2 := @CG_le (sA H 1) (RV P) k (by omega)
    have r1 : s 139 k = H k := by rw [g1 139 (by simp)]; exact hH k hk
    have e0 : ∀ rec, gX10_plan_53 rec s (nI k) = if H k = 1 then rec (upm (upm s 141 (upd (s 141) k (nI (CG (sA H 1) (RV P) k)))) 123 (upd (s 123) 21 (nI (max (mxc (sA H 1) (RV P) k) (CG (sA H 1) (RV P) k + 1)))), nI (k + 1)) else rec (s, nI (k + 1)) := by
      intro rec
      unfold gX10_plan_53
      simp (disch := omega) only [obs, bd, jn, bn2, un2, bn3, un3, bns, nI_1, nI_clamp, gN, gN0, gN1, gN2, gN3, nI_leI, nI_ltI, nI_eq, li_le, li_lt, le_li, lt_li, eq_li, li_eq, li_mul, mul_li, add_li, nI_add, m_has, c_has, hI_0, bI_0, if_neg, r1, e2, upm_s, upd_a, if_true, upm_n, ne_eq, g3]
      rw [mxp _ (by omega) _ (by omega)]
    by_cases q : H k = 1
    · have hS : sA H 1 k = true := decide_eq_true q
      refine ⟨_, fun rec => (e0 rec).trans (if_pos q), (g1.up (by simp)).up (by simp), fun i hi => ?_, ?_, fun v hv => ?_⟩
      · rw [upm_s, upd_a, if_neg hi]; exact g2 i hi
      · rw [upm_s, upd_a, if_pos rfl]
        simp only [mxc]
        rw [if_pos hS]
      · rw [upm_n (by omega), upm_s, upd_a]
        by_cases h : v = k
        · subst h
          rw [if_pos rfl, if_pos (by omega)]
          exact (if_pos hS).symm
        · rw [if_neg h, g4 v hv]
          by_cases h2 : v < k
          · rw [if_pos h2, if_pos (by omega)]
          · rw [if_neg h2, if_neg (by omega)]
    · have hS : ¬ sA H 1 k = true := fun r => q (of_decide_eq_true r)
      refine ⟨_, fun rec => (e0 rec).trans (if_neg q), g1, g2, ?_, fun v hv => ?_⟩
      · simp only [mxc]
        rw [if_neg hS]; exact g3
      · rw [g4 v hv]
        by_cases h : v = k
        · subst h
          rw [if_neg (by omega), if_pos (by omega)]
          exact (if_neg hS).symm
        · by_cases h2 : v < k
          · rw [if_pos h2, if_pos (by omega)]
          · rw [if_neg h2, if_neg (by omega)]
  · rintro s ⟨g1, g2, g3, g4⟩
    refine ⟨s, fun rec => ?_, g1, g2, g3, fun v hv => by rw [g4 v hv, if_pos hv]⟩
    show gX10_plan_53 rec s (nI 12) = _
    unfold gX10_plan_53
    simp (disch := omega) only [obs, bd, jn, bn2, un2, bn3, un3, bns, nI_1, nI_clamp, gN, gN0, gN1, gN2, gN3, nI_leI, nI_ltI, nI_eq, li_le, li_lt, le_li, lt_li, eq_li, li_eq, li_mul, mul_li, add_li, nI_add, m_has, c_has, hI_0, bI_0, if_pos]
