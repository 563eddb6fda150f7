/-! the state that class and model share -/
def BC (σ : Mm) (q m e v f s w : Nat) (K T : Nat → Nat) (A B : Nat → Int32) : Prop := σ q 4 = nI m ∧ σ q 5 = nI e ∧ σ q 6 = (if e = 0 then -1 else nI v) ∧ σ q 7 = (if e = 2 then -1 else nI f) ∧ σ q 8 = (if e = 1 then nI s else -1) ∧ σ q 9 = nI w ∧ ∀ i, i < m → σ (q + 1) i = nI (K i) ∧ σ (q + 2) i = nI (T i) ∧ σ (q + 3) i = A i ∧ σ (q + 4) i = B i
def MC (τ : Mm) (d b m e v f s w : Nat) (K T : Nat → Nat) (A B : Nat → Int32) : Prop := τ d b = nI m ∧ τ (d + 1) b = nI e ∧ (e ≠ 0 → τ (d + 2) b = nI v) ∧ (e ≠ 2 → τ (d + 3) b = nI f) ∧ (e = 1 → τ (d + 4) b = nI s) ∧ τ (d + 5) b = nI w ∧ ∀ i, i < m → τ (d + 6) (8 * b + i) = nI (K i) ∧ τ (d + 7) (8 * b + i) = nI (T i) ∧ τ (d + 8) (8 * b + i) = A i ∧ τ (d + 9) (8 * b + i) = B i
def WB (n m e v f s w : Nat) (K T : Nat → Nat) (A B : Nat → Int32) : Prop := m ≤ 8 ∧ e ≤ 2 ∧ (e ≠ 0 → v < 12) ∧ (e ≠ 2 → f < n) ∧ (e = 1 → s < n) ∧ (1 ≤ w ∧ w ≤ 9999) ∧ ∀ i, i < m → K i ≤ 4 ∧ T i < 12 ∧ (K i ≠ 0 → A i = nI (A i).toNatClampNeg ∧ (A i).toNatClampNeg < 12) ∧ (2 ≤ K i → B i = nI (B i).toNatClampNeg ∧ (B i).toNatClampNeg < 12)
theorem CP_if {σ : Mm} {kp kb : Nat} {P : Pg} : CP σ kp kb P ↔ σ kp 2 = nI (P_n P) ∧ (∀ v, v < 12 → σ (kp + 2) v = P_i P v) ∧ ∀ b, b < 8 → BC σ (kb + 5 * b) (P_m P b) (P_e P b) (P_v P b) (P_f P b) (P_s P b) (P_q P b) (P_k P b) (P_t P b) (P_a P b) (P_b P b) := by
  constructor
  · rintro ⟨a1, a2, a3, a4, a5, a6, a7, a8, a9, a10, a11, a12⟩
    exact ⟨a1, a2, fun b hb' => ⟨a3 b hb', a4 b hb', a5 b hb', a6 b hb', a7 b hb', a8 b hb', fun i hi => ⟨a9 b hb' i hi, a10 b hb' i hi, a11 b hb' i hi, a12 b hb' i hi⟩⟩⟩
  · rintro ⟨a1, a2, h⟩
    exact ⟨a1, a2, fun b hb' => (h b hb').1, fun b hb' => (h b hb').2.1, fun b hb' => (h b hb').2.2.1, fun b hb' => (h b hb').2.2.2.1, fun b hb' => (h b hb').2.2.2.2.1, fun b hb' => (h b hb').2.2.2.2.2.1, fun b hb' i hi => ((h b hb').2.2.2.2.2.2 i hi).1, fun b hb' i hi => ((h b hb').2.2.2.2.2.2 i hi).2.1, fun b hb' i hi => ((h b hb').2.2.2.2.2.2 i hi).2.2.1, fun b hb' i hi => ((h b hb').2.2.2.2.2.2 i hi).2.2.2⟩
theorem MP_if {τ : Mm} {d f : Nat} {P : Pg} : MP τ d f P ↔ τ 123 f = nI (P_n P) ∧ (∀ v, v < 12 → τ (d + 10) v = P_i P v) ∧ ∀ b, b < 8 → MC τ d b (P_m P b) (P_e P b) (P_v P b) (P_f P b) (P_s P b) (P_q P b) (P_k P b) (P_t P b) (P_a P b) (P_b P b) := by
  constructor
  · rintro ⟨a1, a2, a3, a4, a5, a6, a7, a8, a9, a10, a11, a12⟩
    exact ⟨a1, a2, fun b hb' => ⟨a3 b hb', a4 b hb', a5 b hb', a6 b hb', a7 b hb', a8 b hb', fun i hi => ⟨a9 b hb' i hi, a10 b hb' i hi, a11 b hb' i hi, a12 b hb' i hi⟩⟩⟩
  · rintro ⟨a1, a2, h⟩
    exact ⟨a1, a2, fun b hb' => (h b hb').1, fun b hb' => (h b hb').2.1, fun b hb' => (h b hb').2.2.1, fun b hb' => (h b hb').2.2.2.1, fun b hb' => (h b hb').2.2.2.2.1, fun b hb' => (h b hb').2.2.2.2.2.1, fun b hb' i hi => ((h b hb').2.2.2.2.2.2 i hi).1, fun b hb' i hi => ((h b hb').2.2.2.2.2.2 i hi).2.1, fun b hb' i hi => ((h b hb').2.2.2.2.2.2 i hi).2.2.1, fun b hb' i hi => ((h b hb').2.2.2.2.2.2 i hi).2.2.2⟩
theorem WP_if {P : Pg} : WP P ↔ (1 ≤ P_n P ∧ P_n P ≤ 8) ∧ ∀ b, b < 8 → WB (P_n P) (P_m P b) (P_e P b) (P_v P b) (P_f P b) (P_s P b) (P_q P b) (P_k P b) (P_t P b) (P_a P b) (P_b P b) := by
  constructor
  · rintro ⟨a1, a2, a3, a4, a5, a6, a7, a8, a9, a10, a11⟩
    exact ⟨a1, fun b hb' => ⟨a2 b hb', a3 b hb', a4 b hb', a5 b hb', a6 b hb', a7 b hb', fun i hi => ⟨a8 b hb' i hi, a9 b hb' i hi, a10 b hb' i hi, a11 b hb' i hi⟩⟩⟩
  · rintro ⟨a1, h⟩
    exact ⟨a1, fun b hb' => (h b hb').1, fun b hb' => (h b hb').2.1, fun b hb' => (h b hb').2.2.1, fun b hb' => (h b hb').2.2.2.1, fun b hb' => (h b hb').2.2.2.2.1, fun b hb' => (h b hb').2.2.2.2.2.1, fun b hb' i hi => ((h b hb').2.2.2.2.2.2 i hi).1, fun b hb' i hi => ((h b hb').2.2.2.2.2.2 i hi).2.1, fun b hb' i hi => ((h b hb').2.2.2.2.2.2 i hi).2.2.1, fun b hb' i hi => ((h b hb').2.2.2.2.2.2 i hi).2.2.2⟩
def ud {α : Type} (f : Nat → α) (i : Nat) (x : α) : Nat → α := fun j => if j = i then x else f j
theorem ud_s {α : Type} {f : Nat → α} {i : Nat} {x : α} : ud f i x i = x := if_pos rfl
theorem ud_n {α : Type} {f : Nat → α} {i j : Nat} {x : α} (h : j ≠ i) : ud f i x j = f j := if_neg h
/-- a program with another block -/
def sB (P : Pg) (b m e v f s w : Nat) (K T : Nat → Nat) (A B : Nat → Int32) : Pg := (P_n P, ud (P_m P) b m, ud (P_k P) b K, ud (P_t P) b T, ud (P_a P) b A, ud (P_b P) b B, ud (P_e P) b e, ud (P_v P) b v, ud (P_f P) b f, ud (P_s P) b s, ud (P_q P) b w, P_i P)
theorem sB_W {P : Pg} {b m e v f s w : Nat} {K T : Nat → Nat} {A B : Nat → Int32} (hw : WP P) (h : WB (P_n P) m e v f s w K T A B) : WP (sB P b m e v f s w K T A B) := by
  rw [WP_if] at hw ⊢
  refine ⟨hw.1, fun c hc => ?_⟩
  show WB (P_n P) (ud (P_m P) b m c) (ud (P_e P) b e c) (ud (P_v P) b v c) (ud (P_f P) b f c) (ud (P_s P) b s c) (ud (P_q P) b w c) (ud (P_k P) b K c) (ud (P_t P) b T c) (ud (P_a P) b A c) (ud (P_b P) b B c)
  by_cases q : c = b
  · subst q
    simp only [ud_s]
    exact h
  · simp only [ud_n q]
    exact hw.2 c hc
theorem BC_cg {σ σ' : Mm} {q m e v f s w : Nat} {K T : Nat → Nat} {A B : Nat → Int32} (h : ∀ j, q ≤ j → j ≤ q + 4 → σ' j = σ j) (hb' : BC σ q m e v f s w K T A B) : BC σ' q m e v f s w K T A B := by
  unfold BC
  rw [h q (by omega) (by omega), h (q + 1) (by omega) (by omega), h (q + 2) (by omega) (by omega), h (q + 3) (by omega) (by omega), h (q + 4) (by omega) (by omega)]
  exact hb'
theorem sB_C {P : Pg} {σ σ' : Mm} {b m e v f s w : Nat} {K T : Nat → Nat} {A B : Nat → Int32} (hc : CP σ 1 4 P) (h1 : σ' 1 2 = σ 1 2) (h3 : σ' 3 = σ 3) (ho : ∀ j, 4 ≤ j → j ≤ 43 → (j < 4 + 5 * b ∨ 4 + 5 * b + 4 < j) → σ' j = σ j) (h : BC σ' (4 + 5 * b) m e v f s w K T A B) : CP σ' 1 4 (sB P b m e v f s w K T A B) := by
  rw [CP_if] at hc ⊢
  refine ⟨h1.trans hc.1, fun u hu => ?_, fun c hc' => ?_⟩
  · show σ' 3 u = _
    rw [h3]; exact hc.2.1 u hu
  · show BC σ' (4 + 5 * c) (ud (P_m P) b m c) (ud (P_e P) b e c) (ud (P_v P) b v c) (ud (P_f P) b f c) (ud (P_s P) b s c) (ud (P_q P) b w c) (ud (P_k P) b K c) (ud (P_t P) b T c) (ud (P_a P) b A c) (ud (P_b P) b B c)
    by_cases q : c = b
    · subst q
      simp only [ud_s]
      exact h
    · simp only [ud_n q]
      exact BC_cg (fun j a1 a2 => ho j (by omega) (by omega) (by omega)) (hc.2.2 c hc')
theorem MC_cg {τ τ' : Mm} {d b m e v f s w : Nat} {K T : Nat → Nat} {A B : Nat → Int32} (h : ∀ j, j < 6 → τ' (d + j) b = τ (d + j) b) (h2 : ∀ j i, 6 ≤ j → j < 10 → i < m → τ' (d + j) (8 * b + i) = τ (d + j) (8 * b + i)) (hb' : MC τ d b m e v f s w K T A B) : MC τ' d b m e v f s w K T A B := by
  obtain ⟨a1, a2, a3, a4, a5, a6, a7⟩ := hb'
  refine ⟨(h 0 (by omega)).trans a1, (h 1 (by omega)).trans a2, fun q => (h 2 (by omega)).trans (a3 q), fun q => (h 3 (by omega)).trans (a4 q), fun q => (h 4 (by omega)).trans (a5 q), (h 5 (by omega)).trans a6, fun i hi => ?_⟩
  obtain ⟨b1', b2, b3, b4⟩ := a7 i hi
  exact ⟨(h2 6 i (by omega) (by omega) hi).trans b1', (h2 7 i (by omega) (by omega) hi).trans b2, (h2 8 i (by omega) (by omega) hi).trans b3, (h2 9 i (by omega) (by omega) hi).trans b4⟩
theorem sB_M {P : Pg} {τ τ' : Mm} {b m e v f s w : Nat} {K T : Nat → Nat} {A B : Nat → Int32} (hw : WP P) (hb8 : b < 8) (hm : MP τ 124 1 P) (h1 : τ' 123 1 = τ 123 1) (h3 : τ' 134 = τ 134) (ho : ∀ j c, j < 6 → c ≠ b → τ' (124 + j) c = τ (124 + j) c) (ho2 : ∀ j i, 6 ≤ j → j < 10 → (i < 8 * b ∨ 8 * b + 8 ≤ i) → τ' (124 + j) i = τ (124 + j) i) (h : MC τ' 124 b m e v f s w K T A B) : MP τ' 124 1 (sB P b m e v f s w K T A B) := by
  rw [MP_if] at hm ⊢
  refine ⟨h1.trans hm.1, fun u hu => ?_, fun c hc' => ?_⟩
  · show τ' 134 u = _
    rw [h3]; exact hm.2.1 u hu
  · show MC τ' 124 c (ud (P_m P) b m c) (ud (P_e P) b e c) (ud (P_v P) b v c) (ud (P_f P) b f c) (ud (P_s P) b s c) (ud (P_q P) b w c) (ud (P_k P) b K c) (ud (P_t P) b T c) (ud (P_a P) b A c) (ud (P_b P) b B c)
    by_cases q : c = b
    · subst q
      simp only [ud_s]
      exact h
    · simp only [ud_n q]
      have h8 := hw.2.1 c hc'
      exact MC_cg (fun j hj => ho j c hj q) (fun j i a1 a2 a3 => ho2 j _ a1 a2 (by omega)) (hm.2.2 c hc')
def SNP (σ : Mm) : Prop := (σ 0 11 = 0 ∧ σ 123 2 = 0) ∨ (σ 0 11 = 1 ∧ ∃ Q, WP Q ∧ CP σ 44 47 Q ∧ MP σ 159 2 Q)
def CNT (σ : Mm) : Prop := (∀ i, i < 4 → σ 121 i = σ 149 i) ∧ ∀ x, x < 8 → ∃ n, n ≤ 1000 ∧ σ 122 x = nI n ∧ σ 151 x = nI n
def RDR (σ : Mm) : Prop := ∃ (n : Nat) (c : Nat → Nat), n ≤ 80 ∧ σ 113 2 = nI n ∧ σ 123 43 = nI n ∧ ∀ i, i < n → c i < 65536 ∧ σ 114 i = nI (c i) ∧ σ 154 i = nI (c i)
def PLN (σ : Mm) (P : Pg) : Prop := (σ 0 12 = 0 ∧ σ 123 14 = 0) ∨ (σ 0 12 = 1 ∧ σ 123 14 = 1 ∧ σ 0 13 = 1 ∧ ∃ x k, k ≤ 12 ∧ PLc σ P x k ∧ PLm σ P x k)
def IVp (P : Pg) (σ : Mm) : Prop := WP P ∧ CP σ 1 4 P ∧ MP σ 124 1 P ∧ (σ 0 13 = 0 ∨ (σ 0 13 = 1 ∧ AN σ P)) ∧ PLN σ P ∧ SNP σ ∧ CNT σ ∧ RDR σ
def IV (σ : Mm) : Prop := ∃ P, IVp P σ
theorem SNP_cg {σ σ' : Mm} (h : ∀ j, 44 ≤ j → j ≤ 86 → σ' j = σ j) (h2 : ∀ j, 159 ≤ j → j ≤ 169 → σ' j = σ j) (h0 : σ' 0 11 = σ 0 11) (h3 : σ' 123 2 = σ 123 2) (hs : SNP σ) : SNP σ' := by
  rcases hs with ⟨a, b⟩ | ⟨a, Q, q1, q2, q3⟩
  · exact Or.inl ⟨h0.trans a, h3.trans b⟩
  · refine Or.inr ⟨h0.trans a, Q, q1, ?_, ?_⟩
    · rw [CP_if] at q2 ⊢
      refine ⟨by rw [h 44 (by omega) (by omega)]; exact q2.1, fun v hv => by rw [h _ (by omega) (by omega)]; exact q2.2.1 v hv, fun b hb' => BC_cg (fun j a1 a2 => h j (by omega) (by omega)) (q2.2.2 b hb')⟩
    · rw [MP_if] at q3 ⊢
      refine ⟨h3.trans q3.1, fun v hv => by rw [h2 _ (by omega) (by omega)]; exact q3.2.1 v hv, fun b hb' => MC_cg (fun j hj => by rw [h2 _ (by omega) (by omega)]) (fun j i a1 a2 _ => by rw [h2 _ (by omega) (by omega)]) (q3.2.2 b hb')⟩
theorem CNT_cg {σ σ' : Mm} (h1 : σ' 121 = σ 121) (h2 : σ' 122 = σ 122) (h3 : σ' 149 = σ 149) (h4 : σ' 151 = σ 151) (h : CNT σ) : CNT σ' := by
  unfold CNT
  rw [h1, h2, h3, h4]; exact h
theorem RDR_cg {σ σ' : Mm} (h1 : σ' 113 2 = σ 113 2) (h2 : σ' 123 43 = σ 123 43) (h3 : σ' 114 = σ 114) (h4 : σ' 154 = σ 154) (h : RDR σ) : RDR σ' := by
  unfold RDR
  rw [h1, h2, h3, h4]; exact h
/-- nothing that is kept has changed, but perhaps the class has looked -/
theorem IV_tr {P : Pg} {σ σ' : Mm} (h : IVp P σ) (hK : ∀ j, (1 ≤ j ∧ j ≤ 86) ∨ (97 ≤ j ∧ j ≤ 103) ∨ j = 114 ∨ j = 121 ∨ j = 122 ∨ (124 ≤ j ∧ j ≤ 134) ∨ j = 142 ∨ j = 149 ∨ j = 151 ∨ j = 154 ∨ (159 ≤ j ∧ j ≤ 169) → σ' j = σ j) (h0 : σ' 0 11 = σ 0 11 ∧ σ' 0 12 = σ 0 12) (h3 : ∀ i, i = 1 ∨ i = 2 ∨ i = 14 ∨ i = 20 ∨ i = 21 ∨ i = 22 ∨ i = 43 → σ' 123 i = σ 123 i) (h113 : σ' 113 2 = σ 113 2) (hp : ∀ v, v < 12 → σ' 139 v = σ 139 v ∧ σ' 140 v = σ 140 v ∧ σ' 141 v = σ 141 v) (ha : (σ' 0 13 = σ 0 13 ∧ ∀ j, 88 ≤ j → j ≤ 96 → σ' j = σ j) ∨ (σ' 0 13 = 1 ∧ AN σ' P)) : IVp P σ' := by
  obtain ⟨w, c, m, a, p, s, t, r⟩ := h
  have c' : CP σ' 1 4 P := CP_cg (fun k a b => hK k (by omega)) c
  have m' : MP σ' 124 1 P := MP_cg (h3 1 (by omega)) (fun k a b => hK k (by omega)) m
  have a' : σ' 0 13 = 0 ∨ (σ' 0 13 = 1 ∧ AN σ' P) := by
    rcases ha with ⟨q1, q2⟩ | q
    · rcases a with a | ⟨a1, a2⟩
      · exact Or.inl (q1.trans a)
      · exact Or.inr ⟨q1.trans a1, AN_cg q2 a2⟩
    · exact Or.inr q
  refine ⟨w, c', m', a', ?_, SNP_cg (fun j a b => hK j (by omega)) (fun j a b => hK j (by omega)) h0.1 (h3 2 (by omega)) s, CNT_cg (hK 121 (by omega)) (hK 122 (by omega)) (hK 149 (by omega)) (hK 151 (by omega)) t, RDR_cg h113 (h3 43 (by omega)) (hK 114 (by omega)) (hK 154 (by omega)) r⟩
  rcases p with ⟨p1, p2⟩ | ⟨p1, p2, p3, x, k, p4, p5, p6⟩
  · exact Or.inl ⟨h0.2.trans p1, (h3 14 (by omega)).trans p2⟩
  · have z : σ' 0 13 = 1 ∧ AN σ' P := by
      rcases a' with q | q
      · exfalso
        rcases ha with ⟨q1, -⟩ | ⟨q1, -⟩
        · rw [q1, p3] at q; exact absurd q (by decide)
        · rw [q1] at q; exact absurd q (by decide)
      · exact q
    refine Or.inr ⟨h0.2.trans p1, (h3 14 (by omega)).trans p2, z.1, x, k, p4, ?_, ?_⟩
    · obtain ⟨⟨b1', b2, b3, b4, b5, b6⟩, b7, b8, b9, b10⟩ := p5
      refine ⟨⟨c', z.2, ?_, fun v hv => ?_, fun v hv => ?_, fun l hl => ?_⟩, fun v hv => ?_, fun v l hv hl => ?_, ?_, ?_⟩
      · rw [hK 97 (by omega)]; exact b3
      · rw [hK 98 (by omega)]; exact b4 v hv
      · rw [hK 99 (by omega)]; exact b5 v hv
      · rw [hK 102 (by omega), hK 103 (by omega)]; exact b6 l hl
      · rw [hK 100 (by omega)]; exact b7 v hv
      · rw [hK 101 (by omega)]; exact b8 v l hv hl
      · rw [hK 97 (by omega)]; exact b9
      · rw [hK 97 (by omega)]; exact b10
    · obtain ⟨b1', b2, b3, b4, b5, b6, b7⟩ := p6
      refine ⟨fun v hv => ?_, fun v hv => ?_, fun v hv => ?_, ?_, ?_, fun v l hv hl => ?_, ?_⟩
      · rw [(hp v hv).1]; exact b1' v hv
      · rw [(hp v hv).2.1]; exact b2 v hv
      · rw [(hp v hv).2.2]; exact b3 v hv
      · rw [h3 20 (by omega)]; exact b4
      · rw [h3 21 (by omega)]; exact b5
      · rw [hK 142 (by omega)]; exact b6 v l hv hl
      · rw [h3 22 (by omega)]; exact b7
/-- the program has changed -/
theorem IV_mu {P P' : Pg} {σ σ' : Mm} (h : IVp P σ) (hw : WP P') (hc : CP σ' 1 4 P') (hm : MP σ' 124 1 P') (z12 : σ' 0 12 = 0) (z13 : σ' 0 13 = 0) (z14 : σ' 123 14 = 0) (hK : ∀ j, (44 ≤ j ∧ j ≤ 86) ∨ j = 121 ∨ j = 122 ∨ j = 149 ∨ j = 151 ∨ (159 ≤ j ∧ j ≤ 169) → σ' j = σ j) (h11 : σ' 0 11 = σ 0 11) (h2 : σ' 123 2 = σ 123 2) (hr : RDR σ') : IVp P' σ' := by
  obtain ⟨-, -, -, -, -, s, t, -⟩ := h
  exact ⟨hw, hc, hm, Or.inl z13, Or.inl ⟨z12, z14⟩, SNP_cg (fun j a b => hK j (by omega)) (fun j a b => hK j (by omega)) h11 h2 s, CNT_cg (hK 121 (by omega)) (hK 122 (by omega)) (hK 149 (by omega)) (hK 151 (by omega)) t, hr⟩
/-! a call of the law -/
def METH (f : Mm → Option Rx) (g : Mm → Option (Int32 × Mm)) (es : List Nat) (σ : Mm) : Prop := ∃ e a σ1 k, f σ = some (e, a, σ1) ∧ ((e = 0 ∧ k = 0) ∨ (e ≠ 0 ∧ k ≠ 0 ∧ lwH es 1 (e, a, σ1) = some (k, σ1))) ∧ ∀ τ, (∀ j, j ≠ 170 → τ j = σ1 j) → ∃ b τ1, g τ = some (b, τ1) ∧ τ1 170 = τ 170 ∧ τ1 123 0 = k ∧ (e = 0 → b = a) ∧ IV τ1
theorem meth_st {f : Mm → Option Rx} {g : Mm → Option (Int32 × Mm)} {es : List Nat} {σ : Mm} (h : METH f g es σ) : ∃ r σ3 b σ6, (f σ).bind (lwR es) = some (r, σ3) ∧ g σ3 = some (b, σ6) ∧ σ6 123 0 = r ∧ (r = 0 → lg_cmp (σ6 170 (Int32.toNatClampNeg 0)).toInt64 b.toInt64 = 0) ∧ IV σ6 := by
  obtain ⟨e, a, σ1, k, h1, h2, h3⟩ := h
  rcases h2 with ⟨he, hk⟩ | ⟨he, hk, hl⟩
  · subst he hk
    obtain ⟨b, τ1, g1, g2, g3, g4, g5⟩ := h3 (upm σ1 170 (upd (σ1 170) 0 a)) (fun j hj => upm_n hj)
    refine ⟨0, _, b, τ1, ?_, g1, g3, fun _ => ?_, g5⟩
    · rw [h1]; rfl
    · rw [lg_eq, g2, upm_s, g4 rfl]; rfl
  · obtain ⟨b, τ1, g1, g2, g3, g4, g5⟩ := h3 σ1 (fun j _ => rfl)
    refine ⟨k, σ1, b, τ1, ?_, g1, g3, fun q => absurd q hk, g5⟩
    rw [h1]
    show lwR es (e, a, σ1) = _
    unfold lwR
    rw [if_neg he]
    exact hl
