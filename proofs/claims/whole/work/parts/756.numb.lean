/-! the plan as a whole; numbers -/
def PLc (σ : Mm) (P : Pg) (x : Int32) (k : Nat) : Prop := CB σ P (HZ P x k) k ∧ (∀ v, v < 12 → σ 100 v = cv (sA (HZ P x k) 1) (RV P) v) ∧ CT σ (PT P (HZ P x k) k)
def PLm (σ : Mm) (P : Pg) (x : Int32) (k : Nat) : Prop := (∀ v, v < 12 → σ 139 v = HZ P x k v) ∧ (∀ v, v < 12 → σ 140 v = cv (sA (HZ P x k) 0) (RV P) v) ∧ (∀ v, v < 12 → σ 141 v = cv (sA (HZ P x k) 1) (RV P) v) ∧ σ 123 20 = nI k ∧ σ 123 21 = nI (mxc (sA (HZ P x k) 1) (RV P) 12) ∧ MT σ (PT P (HZ P x k) k)
theorem c_place {σ : Mm} {P : Pg} (hw : WP P) (hc : CP σ 1 4 P) (ha : AN σ P) : ∃ σ', fX5_placeUsedInRegisters σ = some σ' ∧ Fq [98] σ σ' ∧ ∀ v, v < 12 → σ' 98 v = h0 P v := by
  have key : ∃ σ', qX5_placeUsedInRegisters_10 (UV P) FU (σ, 0) = some σ' ∧ (Fq [98] σ σ' ∧ ∀ v, v < 12 → σ' 98 v = h0 P v) := by
    refine lp_inv2 (fun k s => Fq [98] σ s ∧ ∀ v, v < k → s 98 v = h0 P v) 12 _ ?_ ?_ ⟨Fq_rf, fun v hv => by omega⟩ (fu (by omega))
    · rintro k s hk ⟨g1, g2⟩
      have hU := hb_UV (P := P) hk
      refine ⟨upm s 98 (upd (s 98) k (h0 P k)), fun rec => ?_, g1.up (by simp), fun v hv => ?_⟩
      · show gX5_placeUsedInRegisters_10 (UV P) rec s (nI k) = _
        unfold gX5_placeUsedInRegisters_10 h0
        simp (disch := omega) only [obs, bd, jn, bn2, un2, bn3, un3, bns, nI_1, nI_clamp, gN, gN0, gN1, gN2, gN3, nI_leI, nI_ltI, nI_eq, li_le, li_lt, le_li, lt_li, eq_li, li_eq, li_mul, mul_li, add_li, nI_add, m_has, c_has, hI_0, bI_0, if_neg, hU]
        cases uV P k <;> simp
      · rw [upm_s, upd_a]
        by_cases h : v = k
        · rw [if_pos h, h]
        · rw [if_neg h]; exact g2 v (by omega)
    · rintro s ⟨g1, g2⟩
      refine ⟨s, fun rec => ?_, g1, g2⟩
      show gX5_placeUsedInRegisters_10 (UV P) rec s (nI 12) = _
      unfold gX5_placeUsedInRegisters_10
      simp (disch := omega) only [obs, bd, jn, bn2, un2, bn3, un3, bns, nI_1, nI_clamp, gN, gN0, gN1, gN2, gN3, nI_leI, nI_ltI, nI_eq, li_le, li_lt, le_li, lt_li, eq_li, li_eq, li_mul, mul_li, add_li, nI_add, m_has, c_has, hI_0, bI_0, if_pos]
  obtain ⟨s, e, q⟩ := key
  refine ⟨s, ?_, q⟩
  unfold fX5_placeUsedInRegisters
  rw [c_used hw hc ha.2.1]
  simp only [obs]
  rw [e]
  rfl
theorem c_make {σ : Mm} {P : Pg} {x : Int32} {k : Nat} (hw : WP P) (hc : CP σ 1 4 P) (ha : AN σ P) (hk : k ≤ 12) (hx : x = 0 ∨ x = 1) : ∃ σ', fX5_make σ (nI k) x = some σ' ∧ Fq [97, 98, 99, 100, 101, 102, 103] σ σ' ∧ PLc σ' P x k := by
  unfold fX5_make
  simp only [bd]
  unfold gb
  rw [if_pos hx]
  generalize hs2 : upm (upm σ 97 (upd (σ 97) 9 (nI k))) 97 _ = s2
  have f2 : Fq [97, 98, 99, 100, 101, 102, 103] σ s2 := hs2 ▸ (Fq_rf.up (by simp)).up (by simp)
  have i9 : s2 97 9 = nI k := by rw [← hs2, upm_s, upd_a, if_neg (by omega), upm_s, upd_a, if_pos rfl]
  have i12 : s2 97 12 = x := by rw [← hs2, upm_s, upd_a, if_pos rfl]
  obtain ⟨s4, e4, f4, r4⟩ := c_place hw (CP_fq f2 (by simp) hc) (AN_fq f2 (by simp) ha)
  have g4 : Fq [97, 98, 99, 100, 101, 102, 103] σ s4 := f2.tr f4 (by simp)
  have a4 := AN_fq g4 (by simp) ha
  rw [e4]
  simp only [obs]
  rw [c_varsAt r4]
  simp only [obs]
  rw [c_colour (show (99 : Nat) ≠ 91 by omega) sA_hb a4.2.2.1]
  simp only [obs]
  generalize hs6 : upm s4 99 (fun v => if v < 12 then cv (sA (h0 P) 0) (RV P) v else s4 99 v) = s6
  have f6 : Fq [97, 98, 99, 100, 101, 102, 103] σ s6 := hs6 ▸ g4.up (by simp)
  have z6 : s6 97 = s2 97 := by rw [← hs6, upm_n (by omega)]; exact f4 97 (by simp)
  obtain ⟨s7, e7, f7, r7, q7⟩ := c_makeLoop (σ := s6) (x := x) (k := k) hw (CP_fq f6 (by simp) hc) (AN_fq f6 (by simp) ha) (by omega) (by rw [z6]; exact i9) (by rw [z6]; exact i12) (fun v hv => by rw [← hs6, upm_n (by omega)]; exact r4 v hv) (fun v hv => by rw [← hs6, upm_s]; exact if_pos hv)
  have g7 : Fq [97, 98, 99, 100, 101, 102, 103] σ s7 := f6.tr f7 (by simp)
  have a7 := AN_fq g7 (by simp) ha
  rw [e7]
  simp only [obs]
  rw [c_varsAt r7]
  simp only [obs]
  rw [c_colour (show (100 : Nat) ≠ 91 by omega) sA_hb a7.2.2.1]
  simp only [obs]
  generalize hs9 : upm s7 100 (fun v => if v < 12 then cv (sA (HZ P x k) 1) (RV P) v else s7 100 v) = s9
  have g9 : Fq [97, 98, 99, 100, 101, 102, 103] σ s9 := hs9 ▸ g7.up (by simp)
  have a9 := AN_fq g9 (by simp) ha
  have c9 := CP_fq g9 (by simp) hc
  obtain ⟨s10, e10, f10, r10⟩ := c_survey hw c9 a9
  have g10 : Fq [97, 98, 99, 100, 101, 102, 103] σ s10 := g9.tr f10 (by simp)
  have b10 : CB s10 P (HZ P x k) k := by
    refine ⟨CP_fq g10 (by simp) hc, AN_fq g10 (by simp) ha, ?_, fun v hv => ?_, fun v hv => ?_, r10⟩
    · rw [f10 97 (by simp), ← hs9, upm_n (by omega), f7 97 (by simp), z6]; exact i9
    · rw [f10 98 (by simp), ← hs9, upm_n (by omega)]; exact r7 v hv
    · rw [f10 99 (by simp), ← hs9, upm_n (by omega)]; exact q7 v hv
  obtain ⟨s11, e11, f11, i11, t11⟩ := c_promoteAll hw b10 hk
  rw [e10]
  simp only [obs]
  rw [e11]
  simp only [obs]
  refine ⟨s11, rfl, g10.tr f11 (by simp), CB_fq f11 i11 b10, fun v hv => ?_, t11⟩
  rw [f11 100 (by simp), f10 100 (by simp), ← hs9, upm_s]
  exact if_pos hv
theorem lo_nat {x : Int32} (h : lo 12 x) : ∃ n, n < 4096 ∧ x = nI n := by
  refine ⟨x.toBitVec.toNat, ?_, ?_⟩
  · exact Nat.lt_pow_two_of_testBit (n := 12) _ (fun i hi => h i hi)
  · apply Int32.toBitVec_inj.mp
    show x.toBitVec = BitVec.ofNat 32 x.toBitVec.toNat
    exact BitVec.eq_of_toNat_eq (by rw [BitVec.toNat_ofNat]; exact (Nat.mod_eq_of_lt x.toBitVec.isLt).symm)
def bcf (l0 : Int32) : Int32 :=
  let v1 := l0 - ((usr l0 1) &&& 1431655765)
  let v2 := (v1 &&& 858993459) + ((usr v1 2) &&& 858993459)
  let v3 := (v2 + (usr v2 4)) &&& 252645135
  let v4 := v3 + (usr v3 8)
  let v5 := v4 + (usr v4 16)
  v5 &&& 63
theorem bc_all2 : ∀ a, a < 64 → ∀ b, b < 64 → bcf (nI (64 * a + b)) = nI (cnt (hb (nI (64 * a + b))) 12) := by decide +kernel
theorem bc_all : ∀ n, n < 4096 → bcf (nI n) = nI (cnt (hb (nI n)) 12) := fun n hn => by
  have e : n = 64 * (n / 64) + n % 64 := by omega
  rw [e]
  exact bc_all2 _ (by omega) _ (by omega)
theorem c_bits {σ : Mm} {x : Int32} (h : lo 12 x) : fJ6_bitCount_0f7a4 σ x = some (nI (cnt (hb x) 12)) := by
  obtain ⟨n, h1, rfl⟩ := lo_nat h
  rw [← bc_all n h1]
  rfl
theorem m_bits {σ : Mm} {x : Int32} : fX10_bits σ x = some (nI (cnt (hb x) 12)) := by
  have e : qX10_bits_4 σ x FU (0, 0) = some (nI (cnt (hb x) 12)) := by
    refine lp_fr (fun k => (nI (cnt (hb x) k), nI k)) 12 rfl ?_ ?_ (fu (by omega))
    · intro k hk rec
      show gX10_bits_4 σ x rec (nI (cnt (hb x) k)) (nI k) = rec (nI (cnt (hb x) (k + 1)), nI (k + 1))
      unfold gX10_bits_4
      simp (disch := omega) only [obs, bd, jn, bn2, un2, bn3, un3, bns, nI_1, nI_clamp, gN, gN0, gN1, gN2, gN3, nI_leI, nI_ltI, nI_eq, li_le, li_lt, le_li, lt_li, eq_li, li_eq, li_mul, mul_li, add_li, nI_add, m_has, c_has, hI_0, bI_0, if_neg, bit_of]
      rw [cnt_s]
      cases hb x k
      · rw [if_neg (by decide)]; simp
      · rw [if_pos rfl, nI_1]; rfl
    · intro rec
      show gX10_bits_4 σ x rec _ (nI 12) = _
      unfold gX10_bits_4
      simp (disch := omega) only [obs, bd, jn, bn2, un2, bn3, un3, bns, nI_1, nI_clamp, gN, gN0, gN1, gN2, gN3, nI_leI, nI_ltI, nI_eq, li_le, li_lt, le_li, lt_li, eq_li, li_eq, li_mul, mul_li, add_li, nI_add, m_has, c_has, hI_0, bI_0, if_pos]
  unfold fX10_bits
  rw [e]
  rfl
theorem c_countAt {σ : Mm} {H : Nat → Int32} {w : Int32} (h : ∀ v, v < 12 → σ 98 v = H v) : fX5_countAt σ w = some (nI (cnt (sA H w) 12)) := by
  unfold fX5_countAt
  rw [c_varsAt h]
  simp only [obs]
  rw [c_bits (fun i hi => by rw [hb_vA, decide_eq_false (by omega)]; rfl), cnt_cg sA_hb]
  rfl
theorem m_homes {σ : Mm} {H : Nat → Int32} {w : Int32} (h : ∀ v, v < 12 → σ 139 v = H v) : fX10_homes σ w = some (nI (cnt (sA H w) 12)) := by
  have e : qX10_homes_4 σ w FU (0, 0) = some (nI (cnt (sA H w) 12)) := by
    refine lp_fr (fun k => (nI (cnt (sA H w) k), nI k)) 12 rfl ?_ ?_ (fu (by omega))
    · intro k hk rec
      show gX10_homes_4 σ w rec (nI (cnt (sA H w) k)) (nI k) = rec (nI (cnt (sA H w) (k + 1)), nI (k + 1))
      unfold gX10_homes_4
      simp (disch := omega) only [obs, bd, jn, bn2, un2, bn3, un3, bns, nI_1, nI_clamp, gN, gN0, gN1, gN2, gN3, nI_leI, nI_ltI, nI_eq, li_le, li_lt, le_li, lt_li, eq_li, li_eq, li_mul, mul_li, add_li, nI_add, m_has, c_has, hI_0, bI_0, if_neg, h k hk]
      rw [cnt_s]
      unfold sA
      by_cases c : H k = w
      · rw [if_pos c, decide_eq_true c]; rfl
      · rw [if_neg c, decide_eq_false c]; rfl
    · intro rec
      show gX10_homes_4 σ w rec _ (nI 12) = _
      unfold gX10_homes_4
      simp (disch := omega) only [obs, bd, jn, bn2, un2, bn3, un3, bns, nI_1, nI_clamp, gN, gN0, gN1, gN2, gN3, nI_leI, nI_ltI, nI_eq, li_le, li_lt, le_li, lt_li, eq_li, li_eq, li_mul, mul_li, add_li, nI_add, m_has, c_has, hI_0, bI_0, if_pos]
  unfold fX10_homes
  rw [e]
  rfl
theorem m_planAll {σ : Mm} {P : Pg} {x : Int32} {k : Nat} (hw : WP P) (hm : MP σ 124 1 P) (hk : k ≤ 12) (h1k : 1 ≤ k) : ∃ σ', fX10_plan σ (nI k) x = some (nI (cnt (sA (HZ P x k) 1) 12), σ') ∧ Fq [123, 135, 136, 137, 138, 139, 140, 141, 142] σ σ' ∧ (∀ i, i ≠ 0 → i ≠ 14 → i ≠ 17 → i ≠ 20 → i ≠ 21 → i ≠ 22 → σ' 123 i = σ 123 i) ∧ σ' 123 0 = 0 ∧ σ' 123 14 = 1 ∧ PLm σ' P x k := by
  unfold fX10_plan fX10_in
  simp only [bd]
  rw [if_neg (fun q => by have q3 : k < 1 := (lt_li (c := 1) (by decide) (by omega)).mp q; omega), if_neg (fun q => by have q3 : 12 < k := (li_lt (c := 12) (by decide) (by omega)).mp q; omega)]
  simp only [obs]
  rw [if_neg (by decide)]
  generalize hs3 : upm (upm σ 123 (upd (σ 123) 0 0)) 123 _ = s3
  have f3 : Fq [123, 135, 136, 137, 138, 139, 140, 141, 142] σ s3 := hs3 ▸ (Fq_rf.up (by simp)).up (by simp)
  have i3 : ∀ i, i ≠ 0 → i ≠ 20 → s3 123 i = σ 123 i := fun i a b => by rw [← hs3, upm_s, upd_a, if_neg b, upm_s, upd_a, if_neg a]
  have t3 : s3 123 0 = 0 := by rw [← hs3, upm_s, upd_a, if_neg (by omega), upm_s, upd_a, if_pos rfl]
  have k3 : s3 123 20 = nI k := by rw [← hs3, upm_s, upd_a, if_pos rfl]
  obtain ⟨s4, e4, f4, a4, r4, n4⟩ := m_begins (σ := s3) hw (MP_fq f3 (by simp) (i3 1 (by omega) (by omega)) hm)
  have z4 : s4 123 = s3 123 := f4 123 (by simp)
  obtain ⟨s5, e5, f5, r5, c5, -⟩ := m_planLoop (x := x) (k := k) hw a4 (by omega) (by rw [z4]; exact k3) r4
  have z5 : s5 123 = s3 123 := (f5 123 (by simp)).trans z4
  have a5 := MA_fq f5 (by simp) a4
  rw [e4]
  simp only [obs]
  rw [e5]
  simp only [obs]
  generalize hs6 : upm s5 123 (upd (s5 123) 21 0) = s6
  have f6 : Fq [123] s5 s6 := hs6 ▸ Fq_rf.up (by simp)
  have i6 : ∀ i, i ≠ 21 → s6 123 i = s3 123 i := fun i a => by rw [← hs6, upm_s, upd_a, if_neg a, z5]
  obtain ⟨s7, e7, f7, i7, n7, r7⟩ := m_slots (σ := s6) (P := P) (H := HZ P x k) hw (fun v hv => by rw [f6 136 (by simp)]; exact a5.2.2 v hv) (fun v hv => by rw [f6 139 (by simp)]; exact r5 v hv) (by rw [← hs6, upm_s, upd_a, if_pos rfl]) (fun v hv => by rw [f6 141 (by simp), f5 141 (by simp)]; exact n4 v hv)
  rw [e7]
  simp only [obs]
  have j7 : ∀ i, i ≠ 21 → s7 123 i = s3 123 i := fun i a => (i7 i a).trans (i6 i a)
  have h57 : Fq [123, 141] s5 s7 := (f6.wk (by simp)).tr f7 (by simp)
  have a7 : MA s7 P := by
    obtain ⟨q1, q2, q3⟩ := a5
    refine ⟨MP_fq h57 (by simp) ((j7 1 (by omega)).trans (by rw [z5])) q1, fun t ht => ?_, fun v hv => ?_⟩
    · rw [h57 135 (by simp)]; exact q2 t ht
    · rw [h57 136 (by simp)]; exact q3 v hv
  have r7' : ∀ v, v < 12 → s7 139 v = HZ P x k v := fun v hv => by rw [h57 139 (by simp)]; exact r5 v hv
  have c7' : ∀ v, v < 12 → s7 140 v = cv (sA (HZ P x k) 0) (RV P) v := fun v hv => by rw [h57 140 (by simp)]; exact c5 v hv
  obtain ⟨s8, e8, f8, i8, b8, t8⟩ := m_promotesAll hw a7 r7' c7' (by rw [j7 20 (by omega)]; exact k3) hk
  rw [e8]
  simp only [obs]
  have f38 : Fq [123, 135, 136, 137, 138, 139, 140, 141, 142] σ s8 := (((f3.tr f4 (by simp)).tr f5 (by simp)).tr h57 (by simp)).tr f8 (by simp)
  have r8 : ∀ v, v < 12 → upm s8 123 (upd (s8 123) 14 1) 139 v = HZ P x k v := fun v hv => by rw [upm_n (by omega)]; exact b8.2.2.1 v hv
  rw [m_homes r8]
  simp only [obs]
  refine ⟨_, rfl, f38.up (by simp), fun i a1 a2 a3 a4 a5 a6 => ?_, ?_, ?_, r8, fun v hv => ?_, fun v hv => ?_, ?_, ?_, fun v l hv hl => ?_, ?_⟩
  · rw [upm_s, upd_a, if_neg a2, i8 i a3 a6, j7 i a5, i3 i a1 a4]
  · rw [upm_s, upd_a, if_neg (by omega), i8 0 (by omega) (by omega), j7 0 (by omega)]; exact t3
  · rw [upm_s, upd_a, if_pos rfl]
  · rw [upm_n (by omega)]; exact b8.2.2.2.1 v hv
  · rw [upm_n (by omega), f8 141 (by simp)]; exact r7 v hv
  · rw [upm_s, upd_a, if_neg (by omega)]; exact b8.2.2.2.2
  · rw [upm_s, upd_a, if_neg (by omega), i8 21 (by omega) (by omega)]; exact n7
  · rw [upm_n (by omega)]; exact t8.1 v l hv hl
  · rw [upm_s, upd_a, if_neg (by omega)]; exact t8.2
