/-! run -/
theorem c_r104 {σ σ1 : Mm} {l : Int32} (h : fX3_execute_q σ l = some (1, σ1)) : ∃ σ2, fX9_resultOf_104 σ l = some (0, σ1 104 7, σ2) ∧ Fq [121, 122] σ1 σ2 ∧ σ2 121 0 = σ1 104 3 ∧ σ2 121 1 = σ1 104 4 ∧ σ2 121 2 = σ1 104 5 ∧ σ2 121 3 = σ1 104 6 ∧ ∀ x, x < 8 → σ2 122 x = σ1 105 x := by
  unfold fX9_resultOf_104
  rw [h]
  simp (disch := omega) only [bn2, obs, un2, bd, gN0, gN1, gN2, gN3]
  rw [if_neg (by decide)]
  refine ⟨_, rfl, ((((Fq_rf.up (by simp)).up (by simp)).up (by simp)).up (by simp)).up (by simp), rfl, rfl, rfl, rfl, fun x hx => ?_⟩
  rw [upm_s]
  unfold va_cpy
  rw [if_pos ⟨Nat.zero_le _, by omega⟩, Nat.zero_add, Nat.sub_zero]
  rfl
theorem c_r107 {σ σ1 : Mm} {l : Int32} (h : fX3_execute_r σ l = some (1, σ1)) : ∃ σ2, fX9_resultOf_107 σ l = some (0, σ1 107 7, σ2) ∧ Fq [121, 122] σ1 σ2 ∧ σ2 121 0 = σ1 107 3 ∧ σ2 121 1 = σ1 107 4 ∧ σ2 121 2 = σ1 107 5 ∧ σ2 121 3 = σ1 107 6 ∧ ∀ x, x < 8 → σ2 122 x = σ1 108 x := by
  unfold fX9_resultOf_107
  rw [h]
  simp (disch := omega) only [bn2, obs, un2, bd, gN0, gN1, gN2, gN3]
  rw [if_neg (by decide)]
  refine ⟨_, rfl, ((((Fq_rf.up (by simp)).up (by simp)).up (by simp)).up (by simp)).up (by simp), rfl, rfl, rfl, rfl, fun x hx => ?_⟩
  rw [upm_s]
  unfold va_cpy
  rw [if_pos ⟨Nat.zero_le _, by omega⟩, Nat.zero_add, Nat.sub_zero]
  rfl
theorem c_r104n {σ σ1 : Mm} {l : Int32} (h : fX3_execute_q σ l = some (0, σ1)) : fX9_resultOf_104 σ l = some (6, 0, σ1) := by
  unfold fX9_resultOf_104
  rw [h]
  rfl
theorem c_r107n {σ σ1 : Mm} {l : Int32} (h : fX3_execute_r σ l = some (0, σ1)) : fX9_resultOf_107 σ l = some (6, 0, σ1) := by
  unfold fX9_resultOf_107
  rw [h]
  rfl
theorem c_rLy {σ : Mm} {l : Nat} (h1 : 1 ≤ l) (h : l ≤ 1000) : fX9_requireLimit σ (nI l) = some (0, 0, σ) := by
  unfold fX9_requireLimit
  rw [if_neg (ge1 h1 (by omega)), if_pos (show nI l ≤ 1000 from (nI_leI (b := 1000) (by omega) (by omega)).mpr h)]
theorem c_rLn {σ : Mm} {x : Int32} (hx : x < 1 ∨ nI 1001 ≤ x) : fX9_requireLimit σ x = some (1, 0, σ) := by
  unfold fX9_requireLimit
  by_cases a : x < 1
  · rw [if_pos a]
  · rw [if_neg a, if_neg (show ¬ x ≤ 1000 from le_bad1 (n := 1000) (by omega) hx a)]
/-- the model's state before a run -/
def m40 (τ : Mm) (z : Int32) : Mm := s3 (s3 τ 0 0) 40 z
theorem m40_n {τ : Mm} {z : Int32} {j : Nat} (h : j ≠ 123) : m40 τ z j = τ j := (s3_n h).trans (s3_n h)
theorem m40_i {τ : Mm} {z : Int32} {i : Nat} (h : i ≠ 0) (h2 : i ≠ 40) : m40 τ z 123 i = τ 123 i := (s3_i h2).trans (s3_i h)
theorem m40_0 {τ : Mm} {z : Int32} : m40 τ z 123 0 = 0 := (s3_i (by omega)).trans s3_s
theorem m40_40 {τ : Mm} {z : Int32} : m40 τ z 123 40 = z := s3_s
theorem m40_M {P : Pg} {τ : Mm} {z : Int32} (h : MP τ 124 1 P) : MP (m40 τ z) 124 1 P := s3_MP (s3_MP h (by omega)) (by omega)
theorem m40_I {P : Pg} {τ : Mm} {z : Int32} (h : IVp P τ) : IVp P (m40 τ z) := IV_j h (fun j _ b _ => m40_n b) (fun i hi => m40_i (by omega) (by omega)) (by rw [m40_n (by omega)])
theorem FrE_I {P : Pg} {τ τ1 : Mm} (h : IVp P τ) (hf : FrE τ τ1) : IVp P τ1 := IV_q h hf.1 (by simp [JK]) (fun i hi => hf.2 i (by omega) (by omega) (by omega) (by omega))
theorem run_fin {P : Pg} {S : List Nat} {σ σ1 σ2 τ τ1 : Mm} {lim f z : Int32} {p q : Nat} (hP : IVp P σ) (hS : ∀ j, j ∈ S → 104 ≤ j ∧ j ≤ 112) (f1 : Fq S σ σ1) (f2 : Fq [121, 122] σ1 σ2) (hτ : ∀ j, j ≠ 170 → τ j = σ2 j) (he : fX10_executes (m40 τ z) lim = some (1, τ1)) (fr : FrE (m40 τ z) τ1) (a0 : σ2 121 0 = σ1 p 3) (a1 : σ2 121 1 = σ1 p 4) (a2 : σ2 121 2 = σ1 p 5) (a3 : σ2 121 3 = σ1 p 6) (a4 : ∀ x, x < 8 → σ2 122 x = σ1 q x) (b0' : σ1 p 3 = τ1 150 0) (b1' : σ1 p 4 = τ1 150 1) (b2 : σ1 p 5 = τ1 150 2) (b3 : σ1 p 6 = τ1 150 3) (b4 : ∀ x, x < 8 → ∃ n, n ≤ 1000 ∧ σ1 q x = nI n ∧ τ1 152 x = nI n) : ∃ τ2, fX10_outcome (m40 τ z) lim f = some (τ1 123 41, τ2) ∧ τ2 170 = τ 170 ∧ τ2 123 0 = 0 ∧ IVp P τ2 := by
  obtain ⟨τ2, o1, o2, o3, o4⟩ := m_out1 (f := f) he
  have t0 : ∀ j, j ≠ 123 → ¬ JK j → j ≠ 121 → j ≠ 122 → j ≠ 149 → j ≠ 151 → τ2 j = σ j := fun j h3 hj h1 h2 h4 h5 => by
    rw [o2 j (by simp; omega), fr.1 j (by unfold JK at hj; simp; omega), m40_n h3, hτ j (fun e => hj (Or.inl e)), f2 j (by simp; omega), f1 j (fun r => by have := hS j r; unfold JK at hj; omega)]
  have t3 : ∀ i, i ≠ 0 → i ≠ 17 → i ≠ 38 → i ≠ 39 → i ≠ 40 → i ≠ 41 → τ2 123 i = σ 123 i := fun i h0 h17 h38 h39 h40 h41 => by
    rw [o2 123 (by simp), fr.2 i h17 h38 h39 h41, m40_i h0 h40, hτ 123 (by omega), f2 123 (by simp), f1 123 (fun r => by have := hS 123 r; omega)]
  refine ⟨τ2, o1, ?_, ?_, ?_⟩
  · rw [o2 170 (by simp), fr.1 170 (by simp), m40_n (by omega)]
  · rw [o2 123 (by simp), fr.2 0 (by omega) (by omega) (by omega) (by omega)]; exact m40_0
  · have c121 : τ2 121 = σ2 121 := by rw [o2 121 (by simp), fr.1 121 (by simp), m40_n (by omega), hτ 121 (by omega)]
    have c122 : τ2 122 = σ2 122 := by rw [o2 122 (by simp), fr.1 122 (by simp), m40_n (by omega), hτ 122 (by omega)]
    refine IV_cn (σ := fun j => if j = 121 ∨ j = 122 ∨ j = 149 ∨ j = 151 then σ j else τ2 j) (IV_j hP (fun j hj h3 h13 => ?_) (fun i hi => ?_) ?_) (fun j h1 h2 h3 h4 => ?_) ⟨fun i hi => ?_, fun x hx => ?_⟩
    · show (if _ then _ else _) = _
      by_cases q : j = 121 ∨ j = 122 ∨ j = 149 ∨ j = 151
      · rw [if_pos q]
      · rw [if_neg q]; exact t0 j h3 hj (by omega) (by omega) (by omega) (by omega)
    · show (if _ then _ else _ : Nat → Int32) i = _
      rw [if_neg (by omega)]; exact t3 i (by omega) (by omega) (by omega) (by omega) (by omega) (by omega)
    · show (if _ then _ else _ : Nat → Int32) 2 = _
      rw [if_neg (by omega), t0 113 (by omega) (by unfold JK; omega) (by omega) (by omega) (by omega) (by omega)]
    · show _ = (if _ then _ else _)
      rw [if_neg (by omega)]
    · rw [c121, o3 i hi]
      have : i = 0 ∨ i = 1 ∨ i = 2 ∨ i = 3 := by omega
      rcases this with r | r | r | r
      · subst r; rw [a0, b0']
      · subst r; rw [a1, b1']
      · subst r; rw [a2, b2]
      · subst r; rw [a3, b3]
    · obtain ⟨n, n1, n2, n3⟩ := b4 x hx
      exact ⟨n, n1, by rw [c122, a4 x hx, n2], by rw [o4 x hx, n3]⟩
theorem so_ne {o : Option (Int32 × Mm)} {a b : Int32} {s t : Mm} (h : o = some (a, s)) (h2 : o = some (b, t)) : a = b ∧ s = t := by
  have h3 := Option.some.inj (h.symm.trans h2)
  exact ⟨congrArg Prod.fst h3, congrArg Prod.snd h3⟩
theorem me_run {σ : Mm} (h : IV σ) (x : Int32) : METH (fun σ => fX9_run σ x) (fun τ => fX10_run τ x) [1, 6] σ := by
  obtain ⟨P, hP⟩ := h
  have hw := hP.1
  rcases ix1 x (n := 1000) (by omega) with hx | ⟨l, h1, hl, rfl⟩
  · refine me_f0 hP 1 1 (by decide) (by decide) rfl ?_ (fun τ hτ => ?_)
    · show fX9_run σ x = _
      unfold fX9_run
      rw [c_rLn hx, bnTe (by decide)]
    · show fX10_run τ x = _
      unfold fX10_run
      simp only [bd]
      rw [up0, show fX10_in (s3 τ 0 0) x 1 1000 = _ from m_in1 (m := 1000) (by omega) x, if_pos hx]
      rfl
  · have eC : fX9_run σ (nI l) = bnT (fX9_resultOf_104 σ (nI l)) fun r3 σ4 => some (0, r3, σ4) := by
      unfold fX9_run
      rw [c_rLy h1 hl, bnT0]
    have eM : ∀ τ, fX10_run τ (nI l) = fX10_outcome (m40 τ 0) (nI l) 2 := fun τ => by
      unfold fX10_run
      simp only [bd]
      rw [up0, show fX10_in (s3 τ 0 0) (nI l) 1 1000 = _ from m_in1 (m := 1000) (by omega) (nI l), if_neg (nx1 h1 hl (by omega))]
      simp only [obs]
      rw [if_neg (by decide)]
      show bn2 (fX10_outcome (m40 τ 0) (nI l) 2) _ = _
      unfold bn2
      cases fX10_outcome (m40 τ 0) (nI l) 2 <;> rfl
    rcases plain_run (τ := m40 σ 0) hw hP.2.1 (m40_I hP).2.2.1 m40_40 hl with ⟨σ1, -, k1, -, k3, -⟩ | ⟨σ1, -, k1, -, k3, -⟩
    · have hP1 : IVp P σ1 := IV_q hP k3 (by simp [JK]) (fun i _ => by rw [k3 123 (by simp)])
      refine me_fE hP1 6 2 (by decide) (by decide) rfl (eC.trans (by rw [c_r104n k1, bnTe (by decide)])) (fun τ _ hI => ?_)
      rcases plain_run (τ := m40 τ 0) hw hP.2.1 (m40_I hI).2.2.1 m40_40 hl with ⟨σ1', τ1, j1, j2, -, j4⟩ | ⟨σ1', -, j1, -⟩
      · exact ⟨τ1, (eM τ).trans (m_out0 j2), FrE_I (m40_I hI) j4, by rw [j4.1 170 (by simp), m40_n (by omega)]⟩
      · exact absurd (so_ne k1 j1).1 (by decide)
    · obtain ⟨σ2, r1, r2, a0, a1, a2, a3, a4⟩ := c_r104 k1
      refine me_ok (eC.trans (by rw [r1, bnT0])) (fun τ hτ => ?_)
      have hm : MP τ 124 1 P := MP_cg (by rw [hτ 123 (by omega), r2 123 (by simp), k3 123 (by simp)]) (fun j _ _ => by rw [hτ j (by omega), r2 j (by simp; omega), k3 j (by simp; omega)]) hP.2.2.1
      rcases plain_run (τ := m40 τ 0) hw hP.2.1 (m40_M hm) m40_40 hl with ⟨σ1', τ1, j1, -⟩ | ⟨σ1', τ1, j1, j2, j3, j4, j5, j6, j7, j8, j9, j10⟩
      · exact absurd (so_ne k1 j1).1 (by decide)
      · have e1 := (so_ne k1 j1).2
        subst e1
        obtain ⟨τ2, u1, u2, u3, u4⟩ := run_fin (f := 2) hP (by simp) j3 r2 hτ j2 j4 a0 a1 a2 a3 a4 j6 j7 j8 j9 j10
        exact ⟨τ2, (eM τ).trans (by rw [u1, j5]), u2, u3, P, u4⟩
theorem me_runPlanned {σ : Mm} (h : IV σ) (x : Int32) : METH (fun σ => fX9_runPlanned σ x) (fun τ => fX10_runPlanned τ x) [1, 3, 6] σ := by
  obtain ⟨P, hP⟩ := h
  have hw := hP.1
  rcases ix1 x (n := 1000) (by omega) with hx | ⟨l, h1, hl, rfl⟩
  · refine me_f0 hP 1 1 (by decide) (by decide) rfl ?_ (fun τ hτ => ?_)
    · show fX9_runPlanned σ x = _
      unfold fX9_runPlanned
      rw [c_rLn hx, bnTe (by decide)]
    · show fX10_runPlanned τ x = _
      unfold fX10_runPlanned
      simp only [bd]
      rw [up0, show fX10_in (s3 τ 0 0) x 1 1000 = _ from m_in1 (m := 1000) (by omega) x, if_pos hx]
      rfl
  · have eC : fX9_runPlanned σ (nI l) = bnT (fX9_requirePlan σ) fun _ σ4 => bnT (fX9_resultOf_107 σ4 (nI l)) fun r3 σ4 => some (0, r3, σ4) := by
      unfold fX9_runPlanned
      rw [c_rLy h1 hl, bnT0]
    have eM : ∀ τ, fX10_runPlanned τ (nI l) = if τ 123 14 = 0 then some (0, s3 (s3 τ 0 0) 0 2) else fX10_outcome (m40 τ 1) (nI l) 3 := fun τ => by
      unfold fX10_runPlanned
      simp only [bd]
      rw [up0, show fX10_in (s3 τ 0 0) (nI l) 1 1000 = _ from m_in1 (m := 1000) (by omega) (nI l), if_neg (nx1 h1 hl (by omega))]
      simp only [obs]
      rw [if_neg (by decide), s3_i (by omega)]
      by_cases q : τ 123 14 = 0
      · rw [if_pos q, if_pos q]; rfl
      · rw [if_neg q, if_neg q]
        show bn2 (fX10_outcome (m40 τ 1) (nI l) 3) _ = _
        unfold bn2
        cases fX10_outcome (m40 τ 1) (nI l) 3 <;> rfl
    rcases hP.2.2.2.2.1 with ⟨p1, p2⟩ | ⟨p1, p2, p3, x, k, hk, pc, pm⟩
    · refine me_fE hP 3 2 (by decide) (by decide) rfl (eC.trans ?_) (fun τ hτ hI => ⟨s3 τ 0 0, (eM τ).trans (if_pos (by rw [hτ 123 (by omega)]; exact p2)), IV_s0 hI, s3_n (by omega)⟩)
      unfold fX9_requirePlan
      rw [p1, if_pos rfl, bnTe (by decide)]
    · have eC2 : fX9_runPlanned σ (nI l) = bnT (fX9_resultOf_107 σ (nI l)) fun r3 σ4 => some (0, r3, σ4) := by
        rw [eC]
        unfold fX9_requirePlan
        rw [p1, if_neg (by decide), bnT0]
      have hPT := PT_ok (H := HZ P x k) hw hk
      have ho : OKp P (HZ P x k) k (PT P (HZ P x k) k).1 := ⟨hw, HZ_okH, hPT.1, hPT.2.1, hk⟩
      have hsq : SQ σ P (HZ P x k) k (PT P (HZ P x k) k).1 := ⟨pc.1, pc.2.1, pc.2.2.1⟩
      have pr : ∀ τ : Mm, (∀ j, 123 ≤ j → j ≤ 142 → τ j = σ j) → _ := fun τ hτ => plan_run (τ := m40 τ 1) ho hsq (m40_M (MP_cg (by rw [hτ 123 (by omega) (by omega)]) (fun j _ _ => hτ j (by omega) (by omega)) hP.2.2.1)) (fun v hv => by rw [m40_n (by omega), hτ 139 (by omega) (by omega)]; exact pm.1 v hv) (fun v hv => by rw [m40_n (by omega), hτ 140 (by omega) (by omega)]; exact pm.2.1 v hv) (fun v hv => by rw [m40_n (by omega), hτ 141 (by omega) (by omega)]; exact pm.2.2.1 v hv) (fun v l hv hl => by rw [m40_n (by omega), hτ 142 (by omega) (by omega)]; exact pm.2.2.2.2.2.1 v l hv hl) m40_40 hl
      rcases pr σ (fun _ _ _ => rfl) with ⟨σ1, -, k1, -, k3, -⟩ | ⟨σ1, -, k1, -, k3, -⟩
      · have hP1 : IVp P σ1 := IV_q hP k3 (by simp [JK, SC]) (fun i _ => by rw [k3 123 (by simp [SC])])
        refine me_fE hP1 6 3 (by decide) (by decide) rfl (eC2.trans (by rw [c_r107n k1, bnTe (by decide)])) (fun τ hτ hI => ?_)
        have hτ' : ∀ j, 123 ≤ j → j ≤ 142 → τ j = σ j := fun j a b => by rw [hτ j (by omega), k3 j (by simp [SC]; omega)]
        rcases pr τ hτ' with ⟨σ1', τ1, j1, j2, -, j4⟩ | ⟨σ1', -, j1, -⟩
        · exact ⟨τ1, (eM τ).trans ((if_neg (by rw [hτ' 123 (by omega) (by omega), p2]; decide)).trans (m_out0 j2)), FrE_I (m40_I hI) j4, by rw [j4.1 170 (by simp), m40_n (by omega)]⟩
        · exact absurd (so_ne k1 j1).1 (by decide)
      · obtain ⟨σ2, r1, r2, a0, a1, a2, a3, a4⟩ := c_r107 k1
        refine me_ok (eC2.trans (by rw [r1, bnT0])) (fun τ hτ => ?_)
        have hτ' : ∀ j, 123 ≤ j → j ≤ 142 → τ j = σ j := fun j a b => by rw [hτ j (by omega), r2 j (by simp; omega), k3 j (by simp [SC]; omega)]
        rcases pr τ hτ' with ⟨σ1', τ1, j1, -⟩ | ⟨σ1', τ1, j1, j2, j3, j4, j5, j6, j7, j8, j9, j10⟩
        · exact absurd (so_ne k1 j1).1 (by decide)
        · have e1 := (so_ne k1 j1).2
          subst e1
          obtain ⟨τ2, u1, u2, u3, u4⟩ := run_fin (f := 3) hP (by simp [SC]) j3 r2 hτ j2 j4 a0 a1 a2 a3 a4 j6 j7 j8 j9 j10
          exact ⟨τ2, (eM τ).trans ((if_neg (by rw [hτ' 123 (by omega) (by omega), p2]; decide)).trans (by rw [u1, j5])), u2, u3, P, u4⟩
