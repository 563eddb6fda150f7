/-! the course of an execution, both machines -/
def mTl (rec : Mm → Option ((Int32 × Mm) ⊕ Unit)) (σ16 : Mm) : Option ((Int32 × Mm) ⊕ Unit) :=
  gd (σ16 123 39) 8 <|
  jn (fun (σ18 : Mm) (v19 : Int32) => gd (σ18 123 39) 8 <|
  if (σ18 125 (σ18 123 39).toNatClampNeg) = 2 then
  bd (upm σ18 123 (upd (σ18 123) 41 v19)) fun σ34 =>
  some (.inl (1, σ34))
else
  gd (σ18 123 39) 8 <|
  jn (fun (v23 : Int32) => if (σ18 123 40) = 0 then
  bd (upm σ18 123 (upd (σ18 123) 39 v23)) fun σ25 =>
  rec σ25
else
  (fX10_goesInto σ18 (σ18 123 39) v23).bind fun σ26 =>
  bd (upm σ26 123 (upd (σ26 123) 39 v23)) fun σ27 =>
  rec σ27) fun j24 =>
  if (σ18 125 (σ18 123 39).toNatClampNeg) = 0 then
  gd (σ18 123 39) 8 <|
  j24 (σ18 127 (σ18 123 39).toNatClampNeg)
else
  if v19 = 0 then
  gd (σ18 123 39) 8 <|
  j24 (σ18 128 (σ18 123 39).toNatClampNeg)
else
  gd (σ18 123 39) 8 <|
  j24 (σ18 127 (σ18 123 39).toNatClampNeg)) fun j20 =>
  if (σ16 125 (σ16 123 39).toNatClampNeg) = 0 then
  j20 σ16 0
else
  gd (σ16 123 39) 8 <|
  bn2 (fX10_got σ16 (σ16 126 (σ16 123 39).toNatClampNeg)) fun r37 σ38 =>
  j20 σ38 r37
def rst (σ : Mm) : Mm := upm (upm (upm σ 153 (upd (σ 153) 0 (-1))) 153 (upd (upd (σ 153) 0 (-1)) 1 (-1))) 123 (upd (σ 123) 38 0)
theorem m_top {σ : Mm} {P : Pg} {rec : Mm → Option ((Int32 × Mm) ⊕ Unit)} {b s lim : Nat} (hw : WP P) (hm : MP σ 124 1 P) (hb' : b < 8) (h39 : σ 123 39 = nI b) (hs : σ 150 0 = nI s) (hsl : s ≤ 1000) (hl : lim ≤ 1000) : gX10_executes_58 (nI lim) rec σ = if s + P_m P b + 1 ≤ lim then (qX10_executes_136 (nI lim) FU (upm (upm (rst σ) 152 (upd (σ 152) b (σ 152 b + 1))) 150 (upd (σ 150) 0 (nI (s + P_m P b + 1))), 0)).bind (mTl rec) else some (.inl (0, upm (rst σ) 152 (upd (σ 152) b (σ 152 b + 1)))) := by
  have h8 := hw.2.1 b hb'
  have m3 : σ 124 b = nI (P_m P b) := hm.2.2.1 b hb'
  have a1 : rst σ 123 39 = nI b := by
    unfold rst
    rw [upm_s, upd_a, if_neg (by omega)]; exact h39
  have a2 : ∀ j, j ≠ 123 → j ≠ 153 → rst σ j = σ j := fun j h1 h2 => by
    unfold rst
    rw [upm_n h1, upm_n h2, upm_n h2]
  have a3 : upm (rst σ) 152 (upd (σ 152) b (σ 152 b + 1)) 123 39 = nI b := by rw [upm_n (by omega)]; exact a1
  have a4 : upm (rst σ) 152 (upd (σ 152) b (σ 152 b + 1)) 150 (Int32.toNatClampNeg 0) = nI s := by
    rw [upm_n (by omega), a2 150 (by omega) (by omega)]; exact hs
  have a5 : upm (rst σ) 152 (upd (σ 152) b (σ 152 b + 1)) 124 b = nI (P_m P b) := by
    rw [upm_n (by omega), a2 124 (by omega) (by omega)]; exact m3
  have a6 : upm (rst σ) 152 (upd (σ 152) b (σ 152 b + 1)) 150 = σ 150 := by
    rw [upm_n (by omega), a2 150 (by omega) (by omega)]
  have a7 : rst σ 152 = σ 152 := a2 152 (by omega) (by omega)
  have e : gX10_executes_58 (nI lim) rec σ = (fun σ5 : Mm => bd (σ5 123 39) fun v6 => gd v6 8 <| gd v6 8 <| bd (upm σ5 152 (upd (σ5 152) v6.toNatClampNeg ((σ5 152 v6.toNatClampNeg) + 1))) fun σ9 => gd 0 4 <| gd (σ9 123 39) 8 <| if (((σ9 150 (Int32.toNatClampNeg 0)) + (σ9 124 (σ9 123 39).toNatClampNeg)) + 1) ≤ nI lim then gd 0 4 <| gd (σ9 123 39) 8 <| gd 0 4 <| bd (upm σ9 150 (upd (σ9 150) (Int32.toNatClampNeg 0) ((σ9 150 (Int32.toNatClampNeg 0)) + ((σ9 124 (σ9 123 39).toNatClampNeg) + 1)))) fun σ15 => (qX10_executes_136 (nI lim) FU (σ15, 0)).bind (mTl rec) else some (.inl (0, σ9))) (rst σ) := rfl
  rw [e]
  simp (disch := omega) only [obs, bd, jn, bn2, un2, bn3, un3, bns, nI_1, nI_clamp, gN, gN0, gN1, gN2, gN3, nI_leI, nI_ltI, nI_eq, li_le, li_lt, le_li, lt_li, eq_li, li_eq, li_mul, mul_li, add_li, nI_add, m_has, c_has, hI_0, bI_0, a1, a7]
  rw [a3]
  simp (disch := omega) only [obs, bd, jn, bn2, un2, bn3, un3, bns, nI_1, nI_clamp, gN, gN0, gN1, gN2, gN3, nI_leI, nI_ltI, nI_eq, li_le, li_lt, le_li, lt_li, eq_li, li_eq, li_mul, mul_li, add_li, nI_add, m_has, c_has, hI_0, bI_0]
  rw [a4, a5, a6]
  simp (disch := omega) only [obs, bd, jn, bn2, un2, bn3, un3, bns, nI_1, nI_clamp, gN, gN0, gN1, gN2, gN3, nI_leI, nI_ltI, nI_eq, li_le, li_lt, le_li, lt_li, eq_li, li_eq, li_mul, mul_li, add_li, nI_add, m_has, c_has, hI_0, bI_0]
  rw [show Int32.toNatClampNeg 0 = 0 from rfl, show s + (P_m P b + 1) = s + P_m P b + 1 from by omega]
theorem lp_1 {S R : Type} {step : (S → Option R) → S → Option R} {n : Nat} {s : S} : lp step (n + 1) s = step (lp step n) s := rfl
section
variable {gC : (Mm × Int32 → Option ((Int32 × Mm) ⊕ Mm)) → Mm → Int32 → Option ((Int32 × Mm) ⊕ Mm)} {pc pe lim : Nat} {P : Pg} {Rel : Nat → Nat → Mm → Mm → Prop} {FC FM : Mm → Prop}
theorem run_is (hw : WP P) (hlim : lim ≤ 1000)
    (hM : ∀ b i σc σm, Rel b i σc σm → MP σm 124 1 P ∧ σm 123 39 = nI b ∧ FC σc ∧ FM σm)
    (hcl : ∀ b i σc σm σc' σm', Rel b i σc σm → (∀ j, j ≠ pe → j ≠ pc → σc' j = σc j) → (∀ i, i ≠ 3 → σc' pc i = σc pc i) → (∀ j, j ≠ 152 → j ≠ 150 → σm' j = σm j) → (∀ i, i ≠ 0 → σm' 150 i = σm 150 i) → Rel b i σc' σm')
    (h1 : ∀ b i σc σm, b < P_n P → i < P_m P b → Rel b i σc σm → ∃ σc' σm', (∀ rec, ¬ nI lim < σc pc 3 → gC rec σc (nI i) = rec (upm σc' pc (upd (σc' pc) 3 (σc' pc 3 + 1)), nI (i + 1))) ∧ fX10_does σm (nI (8 * b + i)) = some σm' ∧ Rel b (i + 1) σc' σm' ∧ σc' pe = σc pe ∧ σc' pc 3 = σc pc 3 ∧ σm' 152 = σm 152 ∧ σm' 150 0 = σm 150 0)
    (hpp : pe ≠ pc) {b : Nat} (hb' : b < P_n P) : ∀ d i t σc σm, i + d ≤ P_m P b → t + d ≤ lim + 1 → Rel b i σc σm → σc pc 3 = nI t → ∃ σc' σm', (∀ n, lp (fun rec s => gC rec s.1 s.2) (n + d) (σc, nI i) = lp (fun rec s => gC rec s.1 s.2) n (σc', nI (i + d))) ∧ (∀ n, qX10_executes_136 (nI lim) (n + d) (σm, nI i) = qX10_executes_136 (nI lim) n (σm', nI (i + d))) ∧ Rel b (i + d) σc' σm' ∧ σc' pe = σc pe ∧ σc' pc 3 = nI (t + d) ∧ σm' 152 = σm 152 ∧ σm' 150 0 = σm 150 0 := by
  have hn := hw.1.2
  have h8 := hw.2.1 b (by omega)
  intro d
  induction d with
  | zero => intro i t σc σm _ _ hR ht; exact ⟨σc, σm, fun n => rfl, fun n => rfl, hR, rfl, ht, rfl, rfl⟩
  | succ d ih =>
    intro i t σc σm hi ht hR h3
    obtain ⟨σc1, σm1, e1, e2, r1, p1, p2, p3, p4⟩ := h1 b i σc σm hb' (by omega) hR
    obtain ⟨m1, m2, -, -⟩ := hM b i σc σm hR
    have m3 : σm 124 b = nI (P_m P b) := m1.2.2.1 b (by omega)
    have r2 : Rel b (i + 1) (upm σc1 pc (upd (σc1 pc) 3 (σc1 pc 3 + 1))) σm1 := hcl b (i + 1) σc1 σm1 _ _ r1 (fun j _ q => upm_n q) (fun i q => by rw [upm_s, upd_a, if_neg q]) (fun _ _ _ => rfl) (fun _ _ => rfl)
    have s2 : upm σc1 pc (upd (σc1 pc) 3 (σc1 pc 3 + 1)) pc 3 = nI (t + 1) := by rw [upm_s, upd_a, if_pos rfl, p2, h3, nI_1]
    obtain ⟨σc2, σm2, f1, f2, f3, f4, f5, f6, f7⟩ := ih (i + 1) (t + 1) _ σm1 (by omega) (by omega) r2 s2
    have ei : i + 1 + d = i + (d + 1) := by omega
    rw [ei] at f1 f2 f3
    refine ⟨σc2, σm2, fun n => ?_, fun n => ?_, f3, ?_, ?_, f6.trans p3, f7.trans p4⟩
    · rw [show n + (d + 1) = (n + d) + 1 from by omega, lp_1]
      show gC _ σc (nI i) = _
      rw [e1 _ (by rw [h3]; exact nI_nlt (by omega) (by omega))]
      exact f1 n
    · rw [show n + (d + 1) = (n + d) + 1 from by omega]
      show gX10_executes_136 (nI lim) (qX10_executes_136 (nI lim) (n + d)) σm (nI i) = _
      unfold gX10_executes_136
      simp (disch := omega) only [obs, bd, jn, bn2, un2, bn3, un3, bns, nI_1, nI_clamp, gN, gN0, gN1, gN2, gN3, nI_leI, nI_ltI, nI_eq, li_le, li_lt, le_li, lt_li, eq_li, li_eq, li_mul, mul_li, add_li, nI_add, m_has, c_has, hI_0, bI_0, m2, m3, if_neg]
      rw [e2]
      simp only [obs]
      exact f2 n
    · rw [f4, upm_n hpp, p1]
    · rw [f5]; congr 1; omega
theorem exec_sk (hw : WP P) (hlim : lim ≤ 1000)
    (hM : ∀ b i σc σm, Rel b i σc σm → MP σm 124 1 P ∧ σm 123 39 = nI b ∧ FC σc ∧ FM σm)
    (hcl : ∀ b i σc σm σc' σm', Rel b i σc σm → (∀ j, j ≠ pe → j ≠ pc → σc' j = σc j) → (∀ i, i ≠ 3 → σc' pc i = σc pc i) → (∀ j, j ≠ 152 → j ≠ 150 → σm' j = σm j) → (∀ i, i ≠ 0 → σm' 150 i = σm 150 i) → Rel b i σc' σm')
    (hov : ∀ rec σ i, nI lim < σ pc 3 → gC rec σ i = some (.inr σ))
    (h1 : ∀ b i σc σm, b < P_n P → i < P_m P b → Rel b i σc σm → ∃ σc' σm', (∀ rec, ¬ nI lim < σc pc 3 → gC rec σc (nI i) = rec (upm σc' pc (upd (σc' pc) 3 (σc' pc 3 + 1)), nI (i + 1))) ∧ fX10_does σm (nI (8 * b + i)) = some σm' ∧ Rel b (i + 1) σc' σm' ∧ σc' pe = σc pe ∧ σc' pc 3 = σc pc 3 ∧ σm' 152 = σm 152 ∧ σm' 150 0 = σm 150 0)
    (h2 : ∀ b σc σm, b < P_n P → P_e P b = 2 → Rel b (P_m P b) σc σm → ∃ σc' σm', (∀ rec, ¬ nI lim < σc pc 3 → gC rec σc (nI (P_m P b)) = some (.inl (1, σc'))) ∧ (∀ rec, mTl rec σm = some (.inl (1, σm'))) ∧ σc' pc 7 = σm' 123 41 ∧ σc' pc 3 = σc pc 3 ∧ σc' pe = σc pe ∧ σm' 152 = σm 152 ∧ σm' 150 0 = σm 150 0 ∧ σc' pc 4 = σm' 150 1 ∧ σc' pc 5 = σm' 150 2 ∧ σc' pc 6 = σm' 150 3 ∧ FC σc' ∧ FM σm')
    (h3 : ∀ b σc σm, b < P_n P → P_e P b ≠ 2 → Rel b (P_m P b) σc σm → ∃ to σc' σm', to < P_n P ∧ (∀ rec, ¬ nI lim < σc pc 3 → gC rec σc (nI (P_m P b)) = rec (upm σc' pc (upd (σc' pc) 3 (σc' pc 3 + 1)), 0)) ∧ (∀ rec, mTl rec σm = rec σm') ∧ Rel to 0 σc' (rst σm') ∧ σc' pe = upd (σc pe) to (σc pe to + 1) ∧ σc' pc 3 = σc pc 3 ∧ σm' 152 = σm 152 ∧ σm' 150 0 = σm 150 0 ∧ σm' 123 39 = nI to ∧ MP σm' 124 1 P)
    (hpp : pe ≠ pc) : ∀ R s b σc σm, s + R = lim → b < P_n P → Rel b 0 σc (rst σm) → σm 123 39 = nI b → MP σm 124 1 P → σc pc 3 = nI (s + 1) → σm 150 0 = nI s → (∀ x, x < 8 → ∃ n, n ≤ s ∧ σm 152 x = nI n ∧ σc pe x = nI (n + if x = b then 1 else 0)) → ∀ nC nM, R + 2 ≤ nC → R + 2 ≤ nM → (∃ σ1 σ2, lp (fun rec s => gC rec s.1 s.2) nC (σc, 0) = some (.inr σ1) ∧ lp (fun rec s => gX10_executes_58 (nI lim) rec s) nM σm = some (.inl (0, σ2)) ∧ FC σ1 ∧ FM σ2) ∨ (∃ σ1 σ2, lp (fun rec s => gC rec s.1 s.2) nC (σc, 0) = some (.inl (1, σ1)) ∧ lp (fun rec s => gX10_executes_58 (nI lim) rec s) nM σm = some (.inl (1, σ2)) ∧ FC σ1 ∧ FM σ2 ∧ σ1 pc 7 = σ2 123 41 ∧ σ1 pc 3 = σ2 150 0 ∧ σ1 pc 4 = σ2 150 1 ∧ σ1 pc 5 = σ2 150 2 ∧ σ1 pc 6 = σ2 150 3 ∧ ∀ x, x < 8 → ∃ n, n ≤ 1000 ∧ σ1 pe x = nI n ∧ σ2 152 x = nI n) := by
  have hn := hw.1.2
  have h40 : ∀ σ j, j ≠ 123 → j ≠ 153 → rst σ j = σ j := fun σ j q1 q2 => by
    unfold rst
    rw [upm_n q1, upm_n q2, upm_n q2]
  intro R
  induction R using Nat.strongRecOn with
  | ind R ih =>
  intro s b σc σm hsR hb' hR h39 hm hc3 hs hv nC nM hnC hnM
  have h8 := hw.2.1 b (by omega)
  generalize hσ9 : upm (rst σm) 152 (upd (σm 152) b (σm 152 b + 1)) = σ9
  have r9 : Rel b 0 σc σ9 := hcl b 0 σc (rst σm) σc σ9 hR (fun _ _ _ => rfl) (fun _ _ => rfl) (fun j q1 q2 => by rw [← hσ9, upm_n q1]) (fun i _ => by rw [← hσ9, upm_n (by omega)])
  obtain ⟨kM, rfl⟩ : ∃ kM, nM = kM + 1 := ⟨nM - 1, by omega⟩
  have eM : ∀ kM, lp (fun rec s => gX10_executes_58 (nI lim) rec s) (kM + 1) σm = if s + P_m P b + 1 ≤ lim then (qX10_executes_136 (nI lim) FU (upm σ9 150 (upd (σm 150) 0 (nI (s + P_m P b + 1))), 0)).bind (mTl (lp (fun rec s => gX10_executes_58 (nI lim) rec s) kM)) else some (.inl (0, σ9)) := by
    intro kM
    rw [← hσ9]
    exact m_top hw hm (by omega) h39 hs (by omega) hlim
  rw [eM]
  by_cases c : s + P_m P b + 1 ≤ lim
  · rw [if_pos c]
    generalize hσ15 : upm σ9 150 (upd (σm 150) 0 (nI (s + P_m P b + 1))) = σ15
    have z150 : σ9 150 = σm 150 := by rw [← hσ9, upm_n (by omega), h40 σm 150 (by omega) (by omega)]
    have r15 : Rel b 0 σc σ15 := hcl b 0 σc σ9 σc σ15 r9 (fun _ _ _ => rfl) (fun _ _ => rfl) (fun j q1 q2 => by rw [← hσ15, upm_n q2]) (fun i q => by rw [← hσ15, upm_s, upd_a, if_neg q, z150])
    have y152 : σ15 152 = upd (σm 152) b (σm 152 b + 1) := by rw [← hσ15, upm_n (by omega), ← hσ9, upm_s]
    have y150 : σ15 150 0 = nI (s + P_m P b + 1) := by rw [← hσ15, upm_s, upd_a, if_pos rfl]
    obtain ⟨σc1, σm1, f1, f2, f3, f4, f5, f6, f7⟩ := run_is hw hlim hM hcl h1 hpp hb' (P_m P b) 0 (s + 1) σc σ15 (by omega) (by omega) r15 hc3
    rw [Nat.zero_add] at f1 f2 f3
    obtain ⟨m1, m2, -, -⟩ := hM b _ σc1 σm1 f3
    have m3 : σm1 124 b = nI (P_m P b) := m1.2.2.1 b (by omega)
    have e136 : qX10_executes_136 (nI lim) FU (σ15, 0) = some σm1 := by
      have eF : FU = (1999 - P_m P b + 1) + P_m P b := by unfold FU; omega
      rw [eF]
      rw [show (0 : Int32) = nI 0 from rfl, f2]
      show gX10_executes_136 (nI lim) _ σm1 (nI (P_m P b)) = _
      unfold gX10_executes_136
      simp (disch := omega) only [obs, bd, jn, bn2, un2, bn3, un3, bns, nI_1, nI_clamp, gN, gN0, gN1, gN2, gN3, nI_leI, nI_ltI, nI_eq, li_le, li_lt, le_li, lt_li, eq_li, li_eq, li_mul, mul_li, add_li, nI_add, m_has, c_has, hI_0, bI_0, m2, m3, if_pos]
    rw [e136]
    simp only [obs]
    obtain ⟨kC, rfl⟩ : ∃ kC, nC = (kC + 1) + P_m P b := ⟨nC - 1 - P_m P b, by omega⟩
    have eC : lp (fun rec s => gC rec s.1 s.2) (kC + 1 + P_m P b) (σc, 0) = gC (lp (fun rec s => gC rec s.1 s.2) kC) σc1 (nI (P_m P b)) := f1 (kC + 1)
    rw [eC]
    have nov : ¬ nI lim < σc1 pc 3 := by rw [f5]; exact nI_nlt (by omega) (by omega)
    have vis : ∀ x, x < 8 → ∃ n, n ≤ s + 1 ∧ σm1 152 x = nI n ∧ σc1 pe x = nI n := by
      intro x hx
      obtain ⟨n, q1, q2, q3⟩ := hv x hx
      refine ⟨n + if x = b then 1 else 0, ?_, ?_, ?_⟩
      · split <;> omega
      · rw [f6, y152, upd_a]
        by_cases q : x = b
        · subst q
          rw [if_pos rfl, if_pos rfl, q2, nI_1]
        · rw [if_neg q, if_neg q, q2]; rfl
      · rw [f4, q3]
    by_cases c2 : P_e P b = 2
    · obtain ⟨σ1, σ2, g1, g2, g3, g4, g5, g6, g7, g8, g9, g10, g11, g12⟩ := h2 b σc1 σm1 hb' c2 f3
      refine Or.inr ⟨σ1, σ2, g1 _ nov, g2 _, g11, g12, g3, ?_, g8, g9, g10, fun x hx => ?_⟩
      · rw [g4, f5, g7, f7, y150]
        congr 1; omega
      · obtain ⟨n, q1, q2, q3⟩ := vis x hx
        exact ⟨n, by omega, by rw [g5]; exact q3, by rw [g6]; exact q2⟩
    · obtain ⟨to, σ1, σ2, g0, g1, g2, g3, g4, g5, g6, g7, g8, g9⟩ := h3 b σc1 σm1 hb' c2 f3
      rw [g1 _ nov, g2]
      have h3' : σ1 pc 3 + 1 = nI (s + P_m P b + 1 + 1) := by
        rw [g5, f5, nI_1]; congr 1; omega
      refine ih (R - (P_m P b + 1)) (by omega) (s + P_m P b + 1) to _ σ2 (by omega) g0 ?_ g8 g9 ?_ ?_ ?_ kC kM (by omega) (by omega)
      · exact hcl to 0 σ1 (rst σ2) _ _ g3 (fun j _ q => upm_n q) (fun i q => by rw [upm_s, upd_a, if_neg q]) (fun _ _ _ => rfl) (fun _ _ => rfl)
      · rw [upm_s, upd_a, if_pos rfl, h3']
      · rw [g7, f7, y150]
      · intro x hx
        obtain ⟨n, q1, q2, q3⟩ := vis x hx
        refine ⟨n, by omega, by rw [g6]; exact q2, ?_⟩
        rw [upm_n hpp, g4, upd_a]
        by_cases q : x = to
        · subst q
          rw [if_pos rfl, if_pos rfl, q3, nI_1]
        · rw [if_neg q, if_neg q, q3]; rfl
  · rw [if_neg c]
    obtain ⟨σc1, σm1, f1, f2, f3, f4, f5, f6, f7⟩ := run_is hw hlim hM hcl h1 hpp hb' (lim - s) 0 (s + 1) σc σ9 (by omega) (by omega) r9 hc3
    rw [Nat.zero_add] at f1 f2 f3
    obtain ⟨kC, rfl⟩ : ∃ kC, nC = (kC + 1) + (lim - s) := ⟨nC - 1 - (lim - s), by omega⟩
    have eC : lp (fun rec s => gC rec s.1 s.2) (kC + 1 + (lim - s)) (σc, 0) = gC (lp (fun rec s => gC rec s.1 s.2) kC) σc1 (nI (lim - s)) := f1 (kC + 1)
    rw [eC]
    refine Or.inl ⟨σc1, σ9, ?_, rfl, (hM _ _ _ _ f3).2.2.1, (hM _ _ _ _ r9).2.2.2⟩
    refine hov _ _ _ ?_
    rw [f5]
    exact nI_lt (by omega) (by omega)
end
