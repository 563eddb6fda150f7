/-! promotion: all loops -/
def MB (σ : Mm) (P : Pg) (H : Nat → Int32) (k : Nat) : Prop := MA σ P ∧ LPs σ 123 137 138 17 P ∧ (∀ v, v < 12 → σ 139 v = H v) ∧ (∀ v, v < 12 → σ 140 v = cv (sA H 0) (RV P) v) ∧ σ 123 20 = nI k
def CB (σ : Mm) (P : Pg) (H : Nat → Int32) (k : Nat) : Prop := CP σ 1 4 P ∧ AN σ P ∧ σ 97 9 = nI k ∧ (∀ v, v < 12 → σ 98 v = H v) ∧ (∀ v, v < 12 → σ 99 v = cv (sA H 0) (RV P) v) ∧ ∀ l, l < LC P → σ 102 l = pI P (BD P l) ∧ σ 103 l = tI P (BD P l)
theorem MB_fq {σ σ' : Mm} {P : Pg} {H : Nat → Int32} {k : Nat} (h : Fq [123, 142] σ σ') (hi : ∀ i, i ≠ 22 → σ' 123 i = σ 123 i) (hm : MB σ P H k) : MB σ' P H k := by
  obtain ⟨⟨h1, h2, h3⟩, ⟨h4, h5⟩, h6, h7, h8⟩ := hm
  refine ⟨⟨MP_fq h (by simp) (hi 1 (by omega)) h1, fun t ht => ?_, fun v hv => ?_⟩, ⟨?_, fun l hl => ?_⟩, fun v hv => ?_, fun v hv => ?_, ?_⟩
  · rw [h 135 (by simp)]; exact h2 t ht
  · rw [h 136 (by simp)]; exact h3 v hv
  · rw [hi 17 (by omega)]; exact h4
  · rw [h 137 (by simp), h 138 (by simp)]; exact h5 l hl
  · rw [h 139 (by simp)]; exact h6 v hv
  · rw [h 140 (by simp)]; exact h7 v hv
  · rw [hi 20 (by omega)]; exact h8
theorem CB_fq {σ σ' : Mm} {P : Pg} {H : Nat → Int32} {k : Nat} (h : Fq [97, 101] σ σ') (hi : ∀ i, i ≠ 10 → i ≠ 11 → σ' 97 i = σ 97 i) (hm : CB σ P H k) : CB σ' P H k := by
  obtain ⟨h1, h2, h3, h4, h5, h6⟩ := hm
  refine ⟨CP_fq h (by simp) h1, AN_fq h (by simp) h2, ?_, fun v hv => ?_, fun v hv => ?_, fun l hl => ?_⟩
  · rw [hi 9 (by omega) (by omega)]; exact h3
  · rw [h 98 (by simp)]; exact h4 v hv
  · rw [h 99 (by simp)]; exact h5 v hv
  · rw [h 102 (by simp), h 103 (by simp)]; exact h6 l hl
theorem m_ps1 {σ : Mm} {P : Pg} {k : Nat} {H : Nat → Int32} {st : PS} (hw : WP P) (hb' : MB σ P H k) (hk : k ≤ 12) (ho : okT P k st.1) (hT : MT σ st) {l v : Nat} (hl : l < LC P) (hv : v < 12) : ∃ σ', (∀ rec, gX10_promotes_2 (nI l) rec σ (nI v) = rec (σ', nI (v + 1))) ∧ Fq [123, 142] σ σ' ∧ (∀ i, i ≠ 22 → σ' 123 i = σ 123 i) ∧ MT σ' (ps1 P H k l v st) := by
  have h8 := LC_le hw
  obtain ⟨⟨h1, h2, h3⟩, h4, h6, h7, h20⟩ := id hb'
  have hlo := lo_tkn (H := H) (l := l) hw hk ho
  have hle := (lm_sp hlo).1
  have hHv := h6 v hv
  have eC := m_tkn (H := H) (v := v) hw h1 h2 hk h4 ho hT.1 h6 h7 h20 hl
  have e0 : ∀ rec, gX10_promotes_2 (nI l) rec σ (nI v) = if H v = 1 ∧ 0 < gn P l v ∧ elw P st.1 v l = false ∧ lm (tkn P H st.1 l) < k then rec (upm (upm σ 142 (upd (σ 142) (8 * v + l) (nI (lm (tkn P H st.1 l))))) 123 (upd (σ 123) 22 (σ 123 22 + gn P l v)), nI (v + 1)) else rec (σ, nI (v + 1)) := by
    intro rec
    generalize hs8 : upm σ 142 (upd (σ 142) (8 * v + l) (nI (lm (tkn P H st.1 l)))) = s8
    have hb8 : MB s8 P H k := hs8 ▸ MB_fq (Fq_rf.up (by simp)) (fun i _ => by rw [upm_n (by omega)]) hb'
    have e8 := m_gain hw hb8.1.1 hb8.1.2.1 hb8.2.1 hl hv
    have z8 : s8 123 = σ 123 := by rw [← hs8, upm_n (by omega)]
    unfold gX10_promotes_2
    simp (disch := omega) only [obs, bd, jn, bn2, un2, bn3, un3, bns, nI_1, nI_clamp, gN, gN0, gN1, gN2, gN3, nI_leI, nI_ltI, nI_eq, li_le, li_lt, le_li, lt_li, eq_li, li_eq, li_mul, mul_li, add_li, nI_add, m_has, c_has, hI_0, bI_0, if_neg, hHv, m_gain hw h1 h2 h4 hl hv, m_elw hw hk h4 ho hT.1 hv hl, eC]
    by_cases cc : H v = 1 ∧ 0 < gn P l v ∧ elw P st.1 v l = false ∧ lm (tkn P H st.1 l) < k
    · obtain ⟨c0, c1, c2, c3⟩ := id cc
      rw [if_pos cc, if_pos c0, if_pos c1, if_pos c2, if_pos c3, if_pos (show (0 : Int32) ≤ nI (lm (tkn P H st.1 l)) from (li_le (c := 0) (by decide) (by omega)).mpr (Nat.zero_le _)), hs8, e8]
      simp only [obs, z8]
    · rw [if_neg cc]
      by_cases c0 : H v = 1
      · rw [if_pos c0]
        by_cases c1 : 0 < gn P l v
        · rw [if_pos c1]
          by_cases c2 : elw P st.1 v l = false
          · have c3 : ¬ lm (tkn P H st.1 l) < k := fun c3 => cc ⟨c0, c1, c2, c3⟩
            rw [if_pos c2, if_neg c3, if_neg (by decide)]
          · rw [if_neg c2, if_neg (by decide)]
        · rw [if_neg c1]
      · rw [if_neg c0]
  unfold ps1
  by_cases c : H v = 1 ∧ 0 < gn P l v ∧ elw P st.1 v l = false ∧ lm (tkn P H st.1 l) < k
  · rw [if_pos c]
    refine ⟨_, fun rec => (e0 rec).trans (if_pos c), (Fq_rf.up (by simp)).up (by simp), fun i hi => ?_, fun v' l' hv' hl' => ?_, ?_⟩
    · rw [upm_s, upd_a, if_neg hi]
    · rw [upm_n (by omega), upm_s, upd_a]
      show _ = upT st.1 v l _ v' l'
      unfold upT
      by_cases q : v' = v ∧ l' = l
      · rw [if_pos q, if_pos (by omega)]
      · rw [if_neg q, if_neg (by omega)]
        exact hT.1 v' l' hv' hl'
    · rw [upm_s, upd_a, if_pos rfl, hT.2]
  · rw [if_neg c]
    exact ⟨σ, fun rec => (e0 rec).trans (if_neg c), Fq_rf, fun _ _ => rfl, hT⟩
theorem itr_ok {P : Pg} {H : Nat → Int32} {k l : Nat} {st : PS} (hl : l < LC P) (ho : okT P k st.1) (n : Nat) : okT P k (itr (ps1 P H k l) st n).1 := by
  induction n with
  | zero => exact ho
  | succ n ih => exact ps1_ok hl ih
theorem c_pl {σ : Mm} {P : Pg} {k : Nat} {H : Nat → Int32} {st : PS} {x y : Int32} (hw : WP P) (hb' : CB σ P H k) (hk : k ≤ 12) (ho : okT P k st.1) (hT : CT σ st) {l : Nat} (hl : l < LC P) : ∃ σ', qX5_promoteAll_48 x y (nI l) FU (σ, 0) = some σ' ∧ (Fq [97, 101] σ σ' ∧ (∀ i, i ≠ 10 → i ≠ 11 → σ' 97 i = σ 97 i) ∧ CT σ' (itr (ps1 P H k l) st 12)) := by
  refine lp_inv2 (fun v s => Fq [97, 101] σ s ∧ (∀ i, i ≠ 10 → i ≠ 11 → s 97 i = σ 97 i) ∧ CT s (itr (ps1 P H k l) st v)) 12 _ ?_ ?_ ⟨Fq_rf, fun _ _ _ => rfl, hT⟩ (fu (by omega))
  · rintro v s hv ⟨g1, g2, g3⟩
    have hb2 := CB_fq g1 g2 hb'
    obtain ⟨c1, c2, c3, c4, c5, c6⟩ := id hb2
    have hHv := c4 v hv
    by_cases q : H v = 1
    · obtain ⟨s', e, q1, q2, q3⟩ := c_ps1 hw c1 c2 hk c3 c4 c5 c6 (itr_ok hl ho v) g3 hl hv q
      refine ⟨s', fun rec => ?_, g1.tr q1 (by simp), fun i a b => (q2 i a b).trans (g2 i a b), q3⟩
      show gX5_promoteAll_48 x y (nI l) rec s (nI v) = _
      unfold gX5_promoteAll_48
      simp (disch := omega) only [obs, bd, jn, bn2, un2, bn3, un3, bns, nI_1, nI_clamp, gN, gN0, gN1, gN2, gN3, nI_leI, nI_ltI, nI_eq, li_le, li_lt, le_li, lt_li, eq_li, li_eq, li_mul, mul_li, add_li, nI_add, m_has, c_has, hI_0, bI_0, if_neg, hHv, q, if_true, e]
    · refine ⟨s, fun rec => ?_, g1, g2, ?_⟩
      · show gX5_promoteAll_48 x y (nI l) rec s (nI v) = _
        unfold gX5_promoteAll_48
        simp (disch := omega) only [obs, bd, jn, bn2, un2, bn3, un3, bns, nI_1, nI_clamp, gN, gN0, gN1, gN2, gN3, nI_leI, nI_ltI, nI_eq, li_le, li_lt, le_li, lt_li, eq_li, li_eq, li_mul, mul_li, add_li, nI_add, m_has, c_has, hI_0, bI_0, if_neg, hHv, q]
        simp
      · show CT s (ps1 P H k l v (itr (ps1 P H k l) st v))
        unfold ps1
        rw [if_neg (fun r => q r.1)]
        exact g3
  · rintro s ⟨g1, g2, g3⟩
    refine ⟨s, fun rec => ?_, g1, g2, g3⟩
    show gX5_promoteAll_48 x y (nI l) rec s (nI 12) = _
    unfold gX5_promoteAll_48
    simp (disch := omega) only [obs, bd, jn, bn2, un2, bn3, un3, bns, nI_1, nI_clamp, gN, gN0, gN1, gN2, gN3, nI_leI, nI_ltI, nI_eq, li_le, li_lt, le_li, lt_li, eq_li, li_eq, li_mul, mul_li, add_li, nI_add, m_has, c_has, hI_0, bI_0, if_pos]
theorem m_pl {σ : Mm} {P : Pg} {k : Nat} {H : Nat → Int32} {st : PS} (hw : WP P) (hb' : MB σ P H k) (hk : k ≤ 12) (ho : okT P k st.1) (hT : MT σ st) {l : Nat} (hl : l < LC P) : ∃ σ', fX10_promotes σ (nI l) = some σ' ∧ (Fq [123, 142] σ σ' ∧ (∀ i, i ≠ 22 → σ' 123 i = σ 123 i) ∧ MT σ' (itr (ps1 P H k l) st 12)) := by
  have key : ∃ σ', qX10_promotes_2 (nI l) FU (σ, 0) = some σ' ∧ (Fq [123, 142] σ σ' ∧ (∀ i, i ≠ 22 → σ' 123 i = σ 123 i) ∧ MT σ' (itr (ps1 P H k l) st 12)) := by
    refine lp_inv2 (fun v s => Fq [123, 142] σ s ∧ (∀ i, i ≠ 22 → s 123 i = σ 123 i) ∧ MT s (itr (ps1 P H k l) st v)) 12 _ ?_ ?_ ⟨Fq_rf, fun _ _ => rfl, hT⟩ (fu (by omega))
    · rintro v s hv ⟨g1, g2, g3⟩
      obtain ⟨s', e, q1, q2, q3⟩ := m_ps1 hw (MB_fq g1 g2 hb') hk (itr_ok hl ho v) g3 hl hv
      exact ⟨s', e, g1.tr q1 (by simp), fun i a => (q2 i a).trans (g2 i a), q3⟩
    · rintro s ⟨g1, g2, g3⟩
      refine ⟨s, fun rec => ?_, g1, g2, g3⟩
      show gX10_promotes_2 (nI l) rec s (nI 12) = _
      unfold gX10_promotes_2
      simp (disch := omega) only [obs, bd, jn, bn2, un2, bn3, un3, bns, nI_1, nI_clamp, gN, gN0, gN1, gN2, gN3, nI_leI, nI_ltI, nI_eq, li_le, li_lt, le_li, lt_li, eq_li, li_eq, li_mul, mul_li, add_li, nI_add, m_has, c_has, hI_0, bI_0, if_pos]
  obtain ⟨s, e, q⟩ := key
  refine ⟨s, ?_, q⟩
  unfold fX10_promotes
  rw [e]
  rfl
/-! which loop is next -/
def nxs (P : Pg) (d : Int32) : Nat → Nat
  | 0 => 8
  | l + 1 => if hb d l = true then nxs P d l else if nxs P d l = 8 then l else if P_q P (LH P (nxs P d l)) < P_q P (LH P l) then l else nxs P d l
theorem nxs_s {P : Pg} {d : Int32} {l : Nat} : nxs P d (l + 1) = if hb d l = true then nxs P d l else if nxs P d l = 8 then l else if P_q P (LH P (nxs P d l)) < P_q P (LH P l) then l else nxs P d l := rfl
theorem nxs_sp {P : Pg} {d : Int32} : ∀ n, n ≤ 8 → (nxs P d n = 8 ∧ ∀ l, l < n → hb d l = true) ∨ nxs P d n < n := by
  intro n
  induction n with
  | zero => intro _; exact Or.inl ⟨rfl, fun l hl => by omega⟩
  | succ n ih =>
    intro hn
    simp only [nxs]
    by_cases c : hb d n = true
    · rw [if_pos c]
      rcases ih (by omega) with ⟨h1, h2⟩ | h1
      · refine Or.inl ⟨h1, fun l hl => ?_⟩
        rcases Nat.lt_or_ge l n with r | r
        · exact h2 l r
        · have : l = n := by omega
          subst this; exact c
      · right; omega
    · rw [if_neg c]
      right
      rcases ih (by omega) with ⟨h1, h2⟩ | h1
      · rw [if_pos h1]; omega
      · rw [if_neg (by omega)]
        split <;> omega
theorem q_le {P : Pg} (hw : WP P) {b : Nat} (hb' : b < 8) : 1 ≤ P_q P b ∧ P_q P b ≤ 9999 := hw.2.2.2.2.2.2.1 b hb'
theorem c_next {σ : Mm} {P : Pg} {d : Int32} (hw : WP P) (hc : CP σ 1 4 P) (hl' : LPs σ 94 95 96 3 P) : fX5_nextLoop σ d = some (if nxs P d (LC P) = 8 then 0 else nI (nxs P d (LC P))) := by
  have h8 := LC_le hw
  have hn := hw.1.2
  have l3 := hl'.1
  have c8 := hc.2.2.2.2.2.2.2.1
  have e : qX5_nextLoop_7 σ d FU (0, 0, 0) = some (if nxs P d (LC P) = 8 then 0 else nI (nxs P d (LC P))) := by
    refine lp_fr (fun l => (if nxs P d l = 8 then 0 else nI (nxs P d l), if nxs P d l = 8 then 0 else nI (P_q P (LH P (nxs P d l))), nI l)) (LC P) rfl ?_ ?_ (fu (by omega))
    · intro l hl rec
      show gX5_nextLoop_7 σ d rec (if nxs P d l = 8 then 0 else nI (nxs P d l)) (if nxs P d l = 8 then 0 else nI (P_q P (LH P (nxs P d l)))) (nI l) = rec (if nxs P d (l + 1) = 8 then 0 else nI (nxs P d (l + 1)), if nxs P d (l + 1) = 8 then 0 else nI (P_q P (LH P (nxs P d (l + 1)))), nI (l + 1))
      have e95 := (hl'.2 l hl).1
      have hh := LH_lt hl
      have q1 := q_le hw (show LH P l < 8 by omega)
      have hl8 : ¬ l = 8 := by omega
      have eN := nxs_s (P := P) (d := d) (l := l)
      unfold gX5_nextLoop_7
      simp (disch := omega) only [obs, bd, jn, bn2, un2, bn3, un3, bns, nI_1, nI_clamp, gN, gN0, gN1, gN2, gN3, nI_leI, nI_ltI, nI_eq, li_le, li_lt, le_li, lt_li, eq_li, li_eq, li_mul, mul_li, add_li, nI_add, m_has, c_has, hI_0, bI_0, if_neg, l3, e95, c8]
      by_cases c0 : hb d l = true
      · rw [if_pos c0] at eN
        rw [eN, if_neg (by rw [c0]; decide)]
      · rw [if_neg c0] at eN
        rw [if_pos (by simpa using c0)]
        rcases nxs_sp (P := P) (d := d) l (by omega) with ⟨h1, -⟩ | h1
        · rw [if_pos h1] at eN
          rw [eN, if_pos h1, if_pos h1, if_neg hl8, if_neg hl8, if_neg (fun q => by have q3 : P_q P (LH P l) ≤ 0 := (le_li (c := 0) (by decide) (by omega)).mp q; omega)]
        · have hne : ¬ nxs P d l = 8 := by omega
          have q2 := q_le hw (show LH P (nxs P d l) < 8 by have := LH_lt (P := P) (l := nxs P d l) (by omega); omega)
          rw [if_neg hne] at eN
          rw [if_neg hne, if_neg hne]
          simp (disch := omega) only [nI_leI]
          by_cases c : P_q P (LH P (nxs P d l)) < P_q P (LH P l)
          · rw [if_pos c] at eN
            rw [eN, if_neg (show ¬ P_q P (LH P l) ≤ P_q P (LH P (nxs P d l)) by omega), if_neg hl8, if_neg hl8]
          · rw [if_neg c] at eN
            rw [eN, if_pos (show P_q P (LH P l) ≤ P_q P (LH P (nxs P d l)) by omega), if_neg hne, if_neg hne]
    · intro rec
      show gX5_nextLoop_7 σ d rec _ _ (nI (LC P)) = _
      unfold gX5_nextLoop_7
      simp (disch := omega) only [obs, bd, jn, bn2, un2, bn3, un3, bns, nI_1, nI_clamp, gN, gN0, gN1, gN2, gN3, nI_leI, nI_ltI, nI_eq, li_le, li_lt, le_li, lt_li, eq_li, li_eq, li_mul, mul_li, add_li, nI_add, m_has, c_has, hI_0, bI_0, l3, if_pos]
  unfold fX5_nextLoop
  rw [e]
  rfl
theorem m_next {σ : Mm} {P : Pg} {d y : Int32} (hw : WP P) (hm : MP σ 124 1 P) (hl' : LPs σ 123 137 138 17 P) : qX10_promotesAll_47 σ d y FU (-1, 0) = some (if nxs P d (LC P) = 8 then -1 else nI (nxs P d (LC P))) := by
  have h8 := LC_le hw
  have hn := hw.1.2
  have l3 := hl'.1
  have m8 := hm.2.2.2.2.2.2.2.1
  refine lp_fr (fun l => (if nxs P d l = 8 then -1 else nI (nxs P d l), nI l)) (LC P) rfl ?_ ?_ (fu (by omega))
  · intro l hl rec
    show gX10_promotesAll_47 σ d y rec (if nxs P d l = 8 then -1 else nI (nxs P d l)) (nI l) = rec (if nxs P d (l + 1) = 8 then -1 else nI (nxs P d (l + 1)), nI (l + 1))
    have e137 := (hl'.2 l hl).1
    have hh := LH_lt hl
    have q1 := q_le hw (show LH P l < 8 by omega)
    have hl8 : ¬ l = 8 := by omega
    have eN := nxs_s (P := P) (d := d) (l := l)
    unfold gX10_promotesAll_47
    simp (disch := omega) only [obs, bd, jn, bn2, un2, bn3, un3, bns, nI_1, nI_clamp, gN, gN0, gN1, gN2, gN3, nI_leI, nI_ltI, nI_eq, li_le, li_lt, le_li, lt_li, eq_li, li_eq, li_mul, mul_li, add_li, nI_add, m_has, c_has, hI_0, bI_0, if_neg, l3]
    by_cases c0 : hb d l = true
    · rw [if_pos c0] at eN
      rw [eN, if_neg (by rw [c0]; decide)]
    · rw [if_neg c0] at eN
      rw [if_pos (by simpa using c0)]
      rcases nxs_sp (P := P) (d := d) l (by omega) with ⟨h1, -⟩ | h1
      · rw [if_pos h1] at eN
        rw [eN, if_pos h1, if_neg hl8, if_pos (by decide)]
      · have hne : ¬ nxs P d l = 8 := by omega
        have hh2 := LH_lt (P := P) (l := nxs P d l) (by omega)
        have q2 := q_le hw (show LH P (nxs P d l) < 8 by omega)
        have f137 := (hl'.2 (nxs P d l) (by omega)).1
        rw [if_neg hne] at eN
        rw [if_neg hne, if_neg (nI_ge0 (by omega))]
        simp (disch := omega) only [obs, bd, jn, bn2, un2, bn3, un3, bns, nI_1, nI_clamp, gN, gN0, gN1, gN2, gN3, nI_leI, nI_ltI, nI_eq, li_le, li_lt, le_li, lt_li, eq_li, li_eq, li_mul, mul_li, add_li, nI_add, m_has, c_has, hI_0, bI_0, e137, f137, m8]
        by_cases c : P_q P (LH P (nxs P d l)) < P_q P (LH P l)
        · rw [if_pos c] at eN
          rw [eN, if_neg (show ¬ P_q P (LH P l) ≤ P_q P (LH P (nxs P d l)) by omega), if_neg hl8]
        · rw [if_neg c] at eN
          rw [eN, if_pos (show P_q P (LH P l) ≤ P_q P (LH P (nxs P d l)) by omega), if_neg hne]
  · intro rec
    show gX10_promotesAll_47 σ d y rec _ (nI (LC P)) = _
    unfold gX10_promotesAll_47
    simp (disch := omega) only [obs, bd, jn, bn2, un2, bn3, un3, bns, nI_1, nI_clamp, gN, gN0, gN1, gN2, gN3, nI_leI, nI_ltI, nI_eq, li_le, li_lt, le_li, lt_li, eq_li, li_eq, li_mul, mul_li, add_li, nI_add, m_has, c_has, hI_0, bI_0, l3, if_pos]
