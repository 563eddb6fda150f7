/-! reading: a row -/
theorem RW_add {m : Nat} {σ τ σ' τ' : Mm} (h : RW m σ τ) (e : ∀ i, i < m → σ' 116 i = σ 116 i ∧ σ' 117 i = σ 117 i ∧ σ' 118 i = σ 118 i ∧ σ' 119 i = σ 119 i ∧ τ' 155 i = τ 155 i ∧ τ' 156 i = τ 156 i ∧ τ' 157 i = τ 157 i ∧ τ' 158 i = τ 158 i) {K T : Nat} {A B : Int32} (r : σ' 116 m = nI K ∧ σ' 117 m = nI T ∧ σ' 118 m = A ∧ σ' 119 m = B ∧ τ' 155 m = nI K ∧ τ' 156 m = nI T ∧ τ' 157 m = A ∧ B = (if K < 2 then -1 else τ' 158 m)) (hK : K ≤ 4) (hT : T < 12) (hA : K ≠ 0 → ∃ x, x < 12 ∧ A = nI x) (hB : 2 ≤ K → ∃ x, x < 12 ∧ B = nI x) : RW (m + 1) σ' τ' := by
  intro i hi
  rcases Nat.lt_or_ge i m with q | q
  · obtain ⟨e1, e2, e3, e4, e5, e6, e7, e8⟩ := e i q
    rw [e1, e2, e3, e4, e5, e6, e7, e8]
    exact h i q
  · have : i = m := by omega
    subst this
    obtain ⟨r1, r2, r3, r4, r5, r6, r7, r8⟩ := r
    exact ⟨K, T, A, B, r1, r2, r3, r4, r5, r6, r7, r8, hK, hT, hA, hB⟩
def CNm (σ : Mm) (t zI : Int32) : Option (Int32 × Mm) := bn3 (qX8_parseConstant_12 t zI FU (σ, 0, 0)) fun σ3 v4 v5 => jn (fun (v6 : Int32) => (fX0_add σ3 115 0 t v6 (-1)).bind fun σ8 => if v5 ≤ 0 then some (0, σ8) else some (1, σ8)) fun j7 => if zI = 0 then j7 v4 else j7 (-v4)
def ngv (z : Bool) (x : Int32) : Int32 := if z then -x else x
theorem rd_num {σ0 τ0 σ τ : Mm} {n nb q m t : Nat} {c : Nat → Nat} {z : Bool} (ho : OKC n c) (hm8 : m < 8) (ht : t < 12) (hf : RF σ0 τ0 σ τ) (hc : IC n c nb q σ) (hm : IM n c nb q τ) (hw : τ 123 45 = 0) (h4 : σ 115 4 = nI m) (h50 : τ 123 50 = nI m) (h156 : τ 156 m = nI t) (hr : RW m σ τ) : ∃ r σ' τ' q', CNm σ (nI t) (bI z) = some (bI r, σ') ∧ fX10_readNumber τ (bI z) = some τ' ∧ RF σ0 τ0 σ' τ' ∧ ((r = true ∧ IC n c nb q' σ' ∧ IM n c nb q' τ' ∧ τ' 123 45 = 0 ∧ σ' 115 4 = nI (m + 1) ∧ τ' 123 50 = nI m ∧ RW (m + 1) σ' τ') ∨ (r = false ∧ q' ≤ n ∧ σ' 113 3 = nI q' ∧ τ' 123 44 = nI q' ∧ τ' 123 45 = 1)) := by
  obtain ⟨d, d1, d2, d3⟩ := dg_ex n c q
  have hq := hc.2.2.2.1
  have eC := c_num (y := nI t) (z := bI z) ho hc d1 d2 d3
  have h4' : aC σ (q + d) 115 4 = nI m := by rw [aC_n (by omega)]; exact h4
  have eN : CNm σ (nI t) (bI z) = some (if d = 0 then 0 else 1, upm (upm (upm (upm (upm (aC σ (q + d)) 116 (upd (σ 116) m 0)) 117 (upd (σ 117) m (nI t))) 118 (upd (σ 118) m (ngv z (nI (vl n c q d))))) 119 (upd (σ 119) m (-1))) 115 (upd (σ 115) 4 (nI (m + 1)))) := by
    have e0 : ∀ x, fX0_add (aC σ (q + d)) 115 0 (nI t) x (-1) = some (upm (upm (upm (upm (upm (aC σ (q + d)) 116 (upd (σ 116) m 0)) 117 (upd (σ 117) m (nI t))) 118 (upd (σ 118) m x)) 119 (upd (σ 119) m (-1))) 115 (upd (σ 115) 4 (nI (m + 1)))) := by
      intro x
      rw [c_add hm8 h4', if_pos (by decide)]
      simp (disch := omega) only [aC_n]
    unfold CNm
    rw [eC]
    simp only [bn3, obs, un3, jn]
    rw [e0, e0]
    simp (disch := omega) only [obs, bd, jn, bn2, un2, bn3, un3, bns, nI_1, nI_clamp, gN, gN0, gN1, gN2, gN3, nI_leI, nI_ltI, nI_eq, li_le, li_lt, le_li, lt_li, eq_li, li_eq, li_mul, mul_li, add_li, nI_add, m_has, c_has, hI_0, bI_0, Nat.le_zero]
    unfold ngv
    cases z <;> by_cases a : d = 0 <;> simp [a, bI]
  rcases Nat.eq_zero_or_pos d with e | e
  · subst e
    rw [if_pos rfl, Nat.add_zero, aC_id hc.2.1] at eN
    have hnd : ¬ dg n c q := by
      rcases d3 with x | x
      · omega
      · exact x
    have eM : fX10_takes τ 48 57 = some (0, wM τ) := by
      rw [show (48 : Int32) = nI 48 from rfl, show (57 : Int32) = nI 57 from rfl, m_takes ho hm hq hw (by omega) (by omega) (by omega), if_neg hnd]
    have hw' : wM τ 123 45 = 1 := wM_45
    have e50 : wM τ 123 50 = nI m := (wM_i (by omega)).trans h50
    have eL : qX10_readNumber_11 (bI z) FU (wM τ, 0, 1) = some (wM τ, 0) := by
      show gX10_readNumber_11 (bI z) (qX10_readNumber_11 (bI z) 1999) (wM τ) 0 1 = _
      unfold gX10_readNumber_11 fX10_in
      rw [if_neg (by decide), m_signW hw']
      simp only [obs]
      rw [if_pos (by decide)]
      simp only [obs, if_true]
    have eR : fX10_readNumber τ (bI z) = some (upm (upm (wM τ) 155 (upd (τ 155) m 0)) 157 (upd (τ 157) m (ngv z 0))) := by
      unfold fX10_readNumber
      rw [eM]
      simp only [bn2, obs, un2]
      rw [eL]
      simp only [obs, un2]
      rw [e50]
      simp (disch := omega) only [obs, bd, jn, bn2, un2, bn3, un3, bns, nI_1, nI_clamp, gN, gN0, gN1, gN2, gN3, nI_leI, nI_ltI, nI_eq, li_le, li_lt, le_li, lt_li, eq_li, li_eq, li_mul, mul_li, add_li, nI_add, m_has, c_has, hI_0, bI_0, upm_n, ne_eq, e50, wM_n]
      unfold ngv
      cases z <;> simp
    refine ⟨false, _, _, q, eN, eR, ?_, Or.inr ⟨rfl, hq, ?_, ?_, ?_⟩⟩
    · have F1 := hf.wM
      exact ((((((F1.M (by omega)).M (by omega)).C (by omega)).C (by omega)).C (by omega)).C (by omega)).C (by omega)
    · simp (disch := omega) only [upm_n, ne_eq]; exact hc.2.1
    · simp (disch := omega) only [upm_n, ne_eq]; rw [wM_i (by omega)]; exact hm.2.1
    · simp (disch := omega) only [upm_n, ne_eq]; exact hw'
  · rw [if_neg (by omega)] at eN
    obtain ⟨d', rfl⟩ : ∃ d', d = d' + 1 := ⟨d - 1, by omega⟩
    have hg0 : dg n c q := d2 0 (by omega)
    have h22 : d' = 2 ∨ ¬ dg n c (q + (d' + 1)) := by
      rcases d3 with x | x
      · exact Or.inl (by omega)
      · exact Or.inr x
    have hqd : q + (d' + 1) ≤ n := by have := dg_lt (d2 d' (by omega)); omega
    have eM : fX10_takes τ 48 57 = some (nI (vl n c q 1), aM τ (q + 1)) := by
      rw [show (48 : Int32) = nI 48 from rfl, show (57 : Int32) = nI 57 from rfl, m_takes ho hm hq hw (by omega) (by omega) (by omega), if_pos hg0]
      show some (nI (sgn n c q - 48), aM τ (q + 1)) = some (nI (0 * 10 + (sgn n c (q + 0) - 48)), aM τ (q + 1))
      rw [Nat.zero_mul, Nat.zero_add]
      rfl
    have eL := m_num (z := bI z) ho hm hw (show d' < 3 by omega) d2 h22
    have e50 : aM τ (q + (d' + 1)) 123 50 = nI m := (aM_i (by omega)).trans h50
    have eR : fX10_readNumber τ (bI z) = some (upm (upm (aM τ (q + (d' + 1))) 155 (upd (τ 155) m 0)) 157 (upd (τ 157) m (ngv z (nI (vl n c q (d' + 1)))))) := by
      unfold fX10_readNumber
      rw [eM]
      simp only [bn2, obs, un2]
      rw [eL]
      simp only [obs, un2]
      rw [e50]
      simp (disch := omega) only [obs, bd, jn, bn2, un2, bn3, un3, bns, nI_1, nI_clamp, gN, gN0, gN1, gN2, gN3, nI_leI, nI_ltI, nI_eq, li_le, li_lt, le_li, lt_li, eq_li, li_eq, li_mul, mul_li, add_li, nI_add, m_has, c_has, hI_0, bI_0, upm_n, ne_eq, e50, aM_n]
      unfold ngv
      cases z <;> simp
    refine ⟨true, _, _, q + (d' + 1), eN, eR, ?_, Or.inl ⟨rfl, ?_, ?_, ?_, ?_, ?_, ?_⟩⟩
    · have F1 : RF σ0 τ0 (aC σ (q + (d' + 1))) (aM τ (q + (d' + 1))) := hf.aC.aM
      exact ((((((F1.M (by omega)).M (by omega)).C (by omega)).C (by omega)).C (by omega)).C (by omega)).C (by omega)
    · exact IC_up (IC_up (IC_up (IC_up (IC_up (hc.at hqd) (by omega)) (by omega)) (by omega)) (by omega)) (by omega)
    · exact IM_up (IM_up hm.at (by omega)) (by omega)
    · simp (disch := omega) only [upm_n, ne_eq]; rw [aM_i (by omega)]; exact hw
    · rw [upm_s, upd_a, if_pos rfl]
    · simp (disch := omega) only [upm_n, ne_eq]; exact e50
    · refine RW_add (K := 0) (T := t) (A := ngv z (nI (vl n c q (d' + 1)))) (B := -1) hr (fun i hi => ?_) ?_ (by omega) ht (fun q => absurd rfl q) (fun q => by omega)
      · simp (disch := omega) only [upm_n, upm_s, ne_eq, upd_a, if_neg, aC_n, aM_n, and_self]
      · simp (disch := omega) only [upm_n, upm_s, ne_eq, upd_a, if_true, aC_n, aM_n]
        exact ⟨rfl, trivial, trivial, trivial, rfl, h156, trivial, (if_pos (by omega)).symm⟩
theorem CNm_eq {σ : Mm} {t : Int32} : fX8_parseConstant σ t = bn2 (fX8_take σ 45) fun r1 σ2 => CNm σ2 t r1 := rfl
def CBd (σ4 : Mm) (r1 : Int32) : Option (Int32 × Mm) := (fX8_signAt σ4 (σ4 113 3)).bind fun r5 => if r5 = 45 then bn2 (fX8_parseConstant σ4 r1) fun r13 σ14 => J8 σ14 r13 else (fX8_signAt σ4 (σ4 113 3)).bind fun r15 => (fX8_isDigit σ4 r15).bind fun r16 => if r16 = 0 then bn2 (fX8_parseVariables σ4 r1) fun r17 σ18 => J8 σ18 r17 else bn2 (fX8_parseConstant σ4 r1) fun r19 σ20 => J8 σ20 r19
theorem CBd_eq {σ : Mm} : fX8_parseInstruction σ = bn2 (fX8_takeVariable σ) fun r1 σ2 => if r1 = (-1) then some (0, σ2) else bn2 (fX8_take σ2 61) fun r3 σ4 => if r3 = 0 then some (0, σ4) else CBd σ4 r1 := rfl
def MV3 (σ18 : Mm) (v22 : Int32) : Option Mm := bd (upm σ18 123 (upd (σ18 123) 44 ((σ18 123 44) + 1))) fun σ21 => gd (σ21 123 50) 8 <| bd (upm σ21 155 (upd (σ21 155) (σ21 123 50).toNatClampNeg v22)) fun σ25 => bn2 (fX10_variable σ25) fun r26 σ27 => gd (σ25 123 50) 8 <| bd (upm σ27 158 (upd (σ27 158) (σ25 123 50).toNatClampNeg r26)) fun σ29 => J7 σ29
def MV2 (σ18 : Mm) (r19 : Int32) : Option Mm := jn (fun (_u : Unit) => bd (upm σ18 123 (upd (σ18 123) 44 ((σ18 123 44) + 1))) fun σ21 => jn (fun (v22 : Int32) => gd (σ21 123 50) 8 <| bd (upm σ21 155 (upd (σ21 155) (σ21 123 50).toNatClampNeg v22)) fun σ25 => bn2 (fX10_variable σ25) fun r26 σ27 => gd (σ25 123 50) 8 <| bd (upm σ27 158 (upd (σ27 158) (σ25 123 50).toNatClampNeg r26)) fun σ29 => J7 σ29) fun j23 => if r19 = 43 then j23 2 else if r19 = 45 then j23 3 else j23 4) fun j20 => if r19 = 43 then j20 () else if r19 = 45 then j20 () else if r19 = 42 then j20 () else J7 σ18
theorem MV2_a {σ18 : Mm} : MV2 σ18 43 = MV3 σ18 2 := rfl
theorem MV2_b {σ18 : Mm} : MV2 σ18 45 = MV3 σ18 3 := rfl
theorem MV2_c {σ18 : Mm} : MV2 σ18 42 = MV3 σ18 4 := rfl
theorem MV2_n {σ18 : Mm} {r19 : Int32} (h1 : ¬ r19 = 43) (h2 : ¬ r19 = 45) (h3 : ¬ r19 = 42) : MV2 σ18 r19 = J7 σ18 := by
  unfold MV2
  exact (if_neg h1).trans ((if_neg h2).trans (if_neg h3))
def MVr (σ4 : Mm) : Option Mm := bn2 (fX10_variable σ4) fun r13 σ14 => gd (σ4 123 50) 8 <| bd (upm σ14 157 (upd (σ14 157) (σ4 123 50).toNatClampNeg r13)) fun σ16 => gd (σ16 123 50) 8 <| bd (upm σ16 155 (upd (σ16 155) (σ16 123 50).toNatClampNeg 1)) fun σ18 => (fX10_sign σ18).bind fun r19 => MV2 σ18 r19
def MBd (σ4 : Mm) : Option Mm := (fX10_sign σ4).bind fun r5 => if r5 = 45 then bd (upm σ4 123 (upd (σ4 123) 44 ((σ4 123 44) + 1))) fun σ37 => (fX10_readNumber σ37 1).bind fun σ38 => J7 σ38 else (fX10_sign σ4).bind fun r11 => (fX10_in σ4 r11 48 57).bind fun r12 => if r12 = 0 then MVr σ4 else (fX10_readNumber σ4 0).bind fun σ35 => J7 σ35
theorem MBd_eq {σ : Mm} {t : Int32} : fX10_readRow σ t = bn2 (fX10_takes σ 61 61) fun r1 σ2 => if (σ2 123 45) = 0 then gd (σ2 123 50) 8 <| bd (upm σ2 156 (upd (σ2 156) (σ2 123 50).toNatClampNeg t)) fun σ4 => MBd σ4 else some σ2 := rfl
