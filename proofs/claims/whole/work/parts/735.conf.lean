/-! conflicts, both sides -/
def cf (R : Nat → Int32) (v : Nat) (s : Int32) : Nat → Int32 := fun u => if u = v then R v ||| (s &&& (b1 v ^^^ (-1))) else if u < 12 ∧ hb s u = true then R u ||| b1 v else R u
theorem cf_cg {R R' : Nat → Int32} {v : Nat} {s : Int32} (hv : v < 12) (h : ∀ u, u < 12 → R u = R' u) : ∀ u, u < 12 → cf R v s u = cf R' v s u := by
  intro u hu
  unfold cf
  rw [h u hu, h v hv]
theorem m_conflict {σ : Mm} {v : Nat} {s : Int32} (hv : v < 12) : fX10_conflict σ (nI v) s = some (upm σ 136 (cf (σ 136) v s)) := by
  have e : qX10_conflict_18 (nI v) s FU (upm σ 136 (upd (σ 136) v (σ 136 v ||| (s &&& (b1 v ^^^ (-1))))), 0) = some (upm σ 136 (cf (σ 136) v s)) := by
    refine lp_fr (fun k => (upm σ 136 (fun u => if u = v then σ 136 v ||| (s &&& (b1 v ^^^ (-1))) else if u < k ∧ hb s u = true then σ 136 u ||| b1 v else σ 136 u), nI k)) 12 ?_ ?_ ?_ (fu (by omega))
    · exact congrArg (fun f => (upm σ 136 f, (0 : Int32))) (funext fun u => by
        rw [upd_a]
        by_cases h : u = v <;> simp [h])
    · intro k hk rec
      show gX10_conflict_18 (nI v) s rec (upm σ 136 _) (nI k) = rec (upm σ 136 _, nI (k + 1))
      unfold gX10_conflict_18
      simp (disch := omega) only [Option.bind_some, bd, jn, bn2, un2, bn3, un3, bns, nI_1, nI_clamp, gN, gN0, gN1, gN2, gN3, nI_leI, nI_ltI, nI_eq, li_le, li_lt, le_li, lt_li, eq_li, li_eq, li_mul, mul_li, add_li, nI_add, m_has, c_has, hI_0, bI_0, if_neg, upm_s, upm_u]
      by_cases h : k = v
      · rw [if_pos h]
        congr 3
        funext u
        by_cases h1 : u = v
        · simp [h1]
        · have : (u < k ↔ u < k + 1) := by omega
          simp [h1, this]
      · rw [if_neg h]
        cases hk2 : hb s k
        · simp only [if_true]
          congr 3
          funext u
          by_cases h1 : u = v
          · simp [h1]
          · by_cases h2 : u = k
            · subst h2; simp [hk2]
            · have : (u < k ↔ u < k + 1) := by omega
              simp [h1, this]
        · simp only [Bool.true_eq_false, if_false]
          congr 3
          funext u
          rw [upd_a]
          by_cases h2 : u = k
          · subst h2; simp [hk2, h, b1]
          · by_cases h1 : u = v
            · subst h1
              simp [h2]
            · have : (u < k ↔ u < k + 1) := by omega
              simp [h1, h2, this]
    · intro rec
      show gX10_conflict_18 (nI v) s rec (upm σ 136 _) (nI 12) = _
      unfold gX10_conflict_18
      simp (disch := omega) only [Option.bind_some, bd, jn, bn2, un2, bn3, un3, bns, nI_1, nI_clamp, gN, gN0, gN1, gN2, gN3, nI_leI, nI_ltI, nI_eq, li_le, li_lt, le_li, lt_li, eq_li, li_eq, li_mul, mul_li, add_li, nI_add, m_has, c_has, hI_0, bI_0, if_pos]
      rfl
  unfold fX10_conflict
  simp (disch := omega) only [Option.bind_some, bd, jn, bn2, un2, bn3, un3, bns, nI_1, nI_clamp, gN, gN0, gN1, gN2, gN3, nI_leI, nI_ltI, nI_eq, li_le, li_lt, le_li, lt_li, eq_li, li_eq, li_mul, mul_li, add_li, nI_add, m_has, c_has, hI_0, bI_0]
  show (qX10_conflict_18 (nI v) s FU (upm σ 136 (upd (σ 136) v (σ 136 v ||| (s &&& (b1 v ^^^ (-1))))), 0)).bind _ = _
  rw [e]
  rfl
theorem c_addRivals {σ : Mm} {v : Nat} {s : Int32} (hv : v < 12) : fX1_addRivals σ (nI v) s = some (upm σ 91 (cf (σ 91) v s)) := by
  have hx : ∀ u, u < 32 → hb (s &&& (b1 v ^^^ (-1))) u = (hb s u && !decide (v = u)) := fun u hu => by rw [hb_and, hb_not hu, hb_b1 (by omega)]
  have e : qX1_addRivals_21 (nI v) (s &&& (b1 v ^^^ (-1))) FU (upm σ 91 (upd (σ 91) v (σ 91 v ||| (s &&& (b1 v ^^^ (-1))))), 0) = some (upm σ 91 (cf (σ 91) v s)) := by
    refine lp_fr (fun k => (upm σ 91 (fun u => if u = v then σ 91 v ||| (s &&& (b1 v ^^^ (-1))) else if u < k ∧ hb s u = true then σ 91 u ||| b1 v else σ 91 u), nI k)) 12 ?_ ?_ ?_ (fu (by omega))
    · exact congrArg (fun f => (upm σ 91 f, (0 : Int32))) (funext fun u => by
        rw [upd_a]
        by_cases h : u = v <;> simp [h])
    · intro k hk rec
      show gX1_addRivals_21 (nI v) (s &&& (b1 v ^^^ (-1))) rec (upm σ 91 _) (nI k) = rec (upm σ 91 _, nI (k + 1))
      unfold gX1_addRivals_21
      simp (disch := omega) only [Option.bind_some, bd, jn, bn2, un2, bn3, un3, bns, nI_1, nI_clamp, gN, gN0, gN1, gN2, gN3, nI_leI, nI_ltI, nI_eq, li_le, li_lt, le_li, lt_li, eq_li, li_eq, li_mul, mul_li, add_li, nI_add, m_has, c_has, hI_0, bI_0, if_neg, upm_s, upm_u, hx]
      by_cases h : k = v
      · subst h
        simp only [decide_true, Bool.not_true, Bool.and_false, if_true]
        congr 3
        funext u
        by_cases h1 : u = k
        · simp [h1]
        · have : (u < k ↔ u < k + 1) := by omega
          simp [h1, this]
      · have h' : ¬ v = k := fun q => h q.symm
        simp only [h', decide_false, Bool.not_false, Bool.and_true]
        cases hk2 : hb s k
        · simp only [if_true]
          congr 3
          funext u
          by_cases h1 : u = v
          · simp [h1]
          · by_cases h2 : u = k
            · subst h2; simp [hk2]
            · have : (u < k ↔ u < k + 1) := by omega
              simp [h1, this]
        · simp only [Bool.true_eq_false, if_false]
          congr 3
          funext u
          rw [upd_a]
          by_cases h2 : u = k
          · subst h2; simp [hk2, h, b1]
          · by_cases h1 : u = v
            · subst h1
              simp [h2]
            · have : (u < k ↔ u < k + 1) := by omega
              simp [h1, h2, this]
    · intro rec
      show gX1_addRivals_21 (nI v) (s &&& (b1 v ^^^ (-1))) rec (upm σ 91 _) (nI 12) = _
      unfold gX1_addRivals_21
      simp (disch := omega) only [Option.bind_some, bd, jn, bn2, un2, bn3, un3, bns, nI_1, nI_clamp, gN, gN0, gN1, gN2, gN3, nI_leI, nI_ltI, nI_eq, li_le, li_lt, le_li, lt_li, eq_li, li_eq, li_mul, mul_li, add_li, nI_add, m_has, c_has, hI_0, bI_0, if_pos]
      rfl
  unfold fX1_addRivals
  simp (disch := omega) only [Option.bind_some, bd, jn, bn2, un2, bn3, un3, bns, nI_1, nI_clamp, gN, gN0, gN1, gN2, gN3, nI_leI, nI_ltI, nI_eq, li_le, li_lt, le_li, lt_li, eq_li, li_eq, li_mul, mul_li, add_li, nI_add, m_has, c_has, hI_0, bI_0]
  show (qX1_addRivals_21 (nI v) (s &&& (b1 v ^^^ (-1))) FU (upm σ 91 (upd (σ 91) v (σ 91 v ||| (s &&& (b1 v ^^^ (-1))))), 0)).bind _ = _
  rw [e]
  rfl
def rv1 (P : Pg) (R : Nat → Int32) (b : Nat) : Nat → Nat → Int32
  | 0 => R
  | i + 1 => cf (rv1 P R b i) (P_t P b i) (lv P (LV P) b (i + 1))
def rv2 (P : Pg) (R : Nat → Int32) : Nat → Nat → Int32
  | 0 => R
  | b + 1 => rv1 P (rv2 P R b) b (P_m P b)
def rv3 (P : Pg) (R : Nat → Int32) : Nat → Nat → Int32
  | 0 => rv2 P R (P_n P)
  | v + 1 => if hb (LV P 0) v = true then cf (rv3 P R v) v (LV P 0) else rv3 P R v
def z12 (f : Nat → Int32) : Nat → Int32 := fun x => if x < 12 then 0 else f x
def RV (P : Pg) : Nat → Int32 := rv3 P (fun _ => 0) 12
theorem rv1_cg {P : Pg} (hw : WP P) {R R' : Nat → Int32} {b : Nat} (hb' : b < 8) (h : ∀ u, u < 12 → R u = R' u) (i : Nat) (hi : i ≤ P_m P b) : ∀ u, u < 12 → rv1 P R b i u = rv1 P R' b i u := by
  induction i with
  | zero => exact h
  | succ i ih => exact cf_cg (hw.2.2.2.2.2.2.2.2.1 b hb' i (by omega)) (ih (by omega))
theorem rv2_cg {P : Pg} (hw : WP P) {R R' : Nat → Int32} (h : ∀ u, u < 12 → R u = R' u) (b : Nat) (hb' : b ≤ P_n P) : ∀ u, u < 12 → rv2 P R b u = rv2 P R' b u := by
  have hn := hw.1.2
  induction b with
  | zero => exact h
  | succ b ih => exact rv1_cg hw (by omega) (ih (by omega)) _ (Nat.le_refl _)
theorem rv3_0 {P : Pg} {R : Nat → Int32} : rv3 P R 0 = rv2 P R (P_n P) := rfl
theorem rv3_s {P : Pg} {R : Nat → Int32} {v : Nat} : rv3 P R (v + 1) = if hb (LV P 0) v = true then cf (rv3 P R v) v (LV P 0) else rv3 P R v := rfl
theorem rv3_cg {P : Pg} (hw : WP P) {R R' : Nat → Int32} (h : ∀ u, u < 12 → R u = R' u) (v : Nat) (hv : v ≤ 12) : ∀ u, u < 12 → rv3 P R v u = rv3 P R' v u := by
  induction v with
  | zero => exact rv2_cg hw h _ (Nat.le_refl _)
  | succ v ih =>
    intro u hu
    rw [rv3_s, rv3_s]
    split
    · exact cf_cg (by omega) (ih (by omega)) u hu
    · exact ih (by omega) u hu
theorem RV_of {P : Pg} (hw : WP P) {f : Nat → Int32} {u : Nat} (hu : u < 12) : rv3 P (z12 f) 12 u = RV P u := by
  unfold RV
  have h := fun v hv => rv3_cg hw (R := z12 f) (R' := fun _ => 0) (fun u hu => if_pos hu) v hv u hu
  exact h 12 (Nat.le_refl _)
