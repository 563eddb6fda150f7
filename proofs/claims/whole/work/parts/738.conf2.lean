/-! what conflicts are -/
theorem hb_cf {R : Nat → Int32} {v : Nat} {s : Int32} {u w : Nat} (hv : v < 12) (hu : u < 12) (hw' : w < 12) : hb (cf R v s u) w = (hb (R u) w || (decide (u = v) && !decide (w = v) && hb s w) || (!decide (u = v) && decide (w = v) && hb s u)) := by
  unfold cf
  by_cases h : u = v
  · subst h
    rw [if_pos rfl, hb_or, hb_and, hb_not (by omega), hb_b1 (by omega)]
    have : decide (u = w) = decide (w = u) := by simp [eq_comm]
    rw [this]
    simp
    cases hb (R u) w <;> cases hb s w <;> simp
  · rw [if_neg h]
    cases hs : hb s u
    · simp [h]
    · rw [if_pos ⟨hu, rfl⟩, hb_or, hb_b1 (by omega)]
      have : decide (v = w) = decide (w = v) := by simp [eq_comm]
      rw [this]
      simp [h]
/-- symmetric, nobody against itself -/
def sy (R : Nat → Int32) : Prop := (∀ u w, u < 12 → w < 12 → hb (R u) w = hb (R w) u) ∧ (∀ u, u < 12 → hb (R u) u = false) ∧ ∀ u, u < 12 → lo 12 (R u)
theorem cf_sy {R : Nat → Int32} {v : Nat} {s : Int32} (hv : v < 12) (hs : lo 12 s) (h : sy R) : sy (cf R v s) := by
  refine ⟨fun u w hu hw' => ?_, fun u hu => ?_, fun u hu => ?_⟩
  · rw [hb_cf hv hu hw', hb_cf hv hw' hu, h.1 u w hu hw']
    by_cases h1 : u = v <;> by_cases h2 : w = v <;> simp [h1, h2]
  · rw [hb_cf hv hu hu, h.2.1 u hu]
    by_cases h1 : u = v <;> simp [h1]
  · unfold cf
    split
    · exact lo_or (h.2.2 v hv) (lo_andL hs)
    · split
      · exact lo_or (h.2.2 u hu) (lo_b1 hv (by omega))
      · exact h.2.2 u hu
theorem cf_up {R : Nat → Int32} {v : Nat} {s : Int32} {u w : Nat} (hv : v < 12) (hu : u < 12) (hw' : w < 12) (h : hb (R u) w = true) : hb (cf R v s u) w = true := by rw [hb_cf hv hu hw', h]; simp
theorem cf_new {R : Nat → Int32} {v : Nat} {s : Int32} {w : Nat} (hv : v < 12) (hw' : w < 12) (hn : w ≠ v) (h : hb s w = true) : hb (cf R v s v) w = true := by rw [hb_cf hv hv hw', h]; simp [hn]
theorem lo_LVv {P : Pg} (hw : WP P) {b i : Nat} (hb' : b < 8) : lo 12 (lv P (LV P) b i) := lo_lv hw (fun t ht => LV_lo hw ht) hb'
theorem rv1_sy {P : Pg} (hw : WP P) {R : Nat → Int32} (h : sy R) {b : Nat} (hb' : b < 8) (i : Nat) (hi : i ≤ P_m P b) : sy (rv1 P R b i) := by
  induction i with
  | zero => exact h
  | succ i ih => exact cf_sy (hw.2.2.2.2.2.2.2.2.1 b hb' i (by omega)) (lo_LVv hw hb') (ih (by omega))
theorem rv2_sy {P : Pg} (hw : WP P) {R : Nat → Int32} (h : sy R) (b : Nat) (hb' : b ≤ P_n P) : sy (rv2 P R b) := by
  have hn := hw.1.2
  induction b with
  | zero => exact h
  | succ b ih => exact rv1_sy hw (ih (by omega)) (by omega) _ (Nat.le_refl _)
theorem rv3_sy {P : Pg} (hw : WP P) {R : Nat → Int32} (h : sy R) (v : Nat) (hv : v ≤ 12) : sy (rv3 P R v) := by
  induction v with
  | zero => exact rv2_sy hw h _ (Nat.le_refl _)
  | succ v ih =>
    rw [rv3_s]
    split
    · exact cf_sy (by omega) (LV_lo hw (by have := hw.1.1; omega)) (ih (by omega))
    · exact ih (by omega)
theorem RV_sy {P : Pg} (hw : WP P) : sy (RV P) := rv3_sy hw ⟨fun _ _ _ _ => by rw [hb_0, hb_0], fun _ _ => hb_0 _, fun _ _ => lo_0 12⟩ 12 (Nat.le_refl _)
theorem rv1_up {P : Pg} (hw : WP P) {R : Nat → Int32} {b : Nat} (hb' : b < 8) {u w : Nat} (hu : u < 12) (hw' : w < 12) {j : Nat} (h : hb (rv1 P R b j u) w = true) : ∀ i, j ≤ i → i ≤ P_m P b → hb (rv1 P R b i u) w = true := by
  intro i
  induction i with
  | zero => intro h1 _; have : j = 0 := by omega
            subst this; exact h
  | succ i ih =>
    intro h1 h2
    rcases Nat.lt_or_ge j (i + 1) with c | c
    · exact cf_up (hw.2.2.2.2.2.2.2.2.1 b hb' i (by omega)) hu hw' (ih (by omega) (by omega))
    · have : j = i + 1 := by omega
      subst this; exact h
theorem rv2_up {P : Pg} (hw : WP P) {R : Nat → Int32} {u w : Nat} (hu : u < 12) (hw' : w < 12) {c : Nat} (h : hb (rv2 P R c u) w = true) : ∀ b, c ≤ b → b ≤ P_n P → hb (rv2 P R b u) w = true := by
  have hn := hw.1.2
  intro b
  induction b with
  | zero => intro h1 _; have : c = 0 := by omega
            subst this; exact h
  | succ b ih =>
    intro h1 h2
    rcases Nat.lt_or_ge c (b + 1) with q | q
    · exact rv1_up hw (by omega) hu hw' (j := 0) (ih (by omega) (by omega)) _ (Nat.zero_le _) (Nat.le_refl _)
    · have : c = b + 1 := by omega
      subst this; exact h
theorem rv3_up {P : Pg} {R : Nat → Int32} {u w : Nat} (hu : u < 12) (hw' : w < 12) {c : Nat} (h : hb (rv3 P R c u) w = true) : ∀ v, c ≤ v → v ≤ 12 → hb (rv3 P R v u) w = true := by
  intro v
  induction v with
  | zero => intro h1 _; have : c = 0 := by omega
            subst this; exact h
  | succ v ih =>
    intro h1 h2
    rcases Nat.lt_or_ge c (v + 1) with q | q
    · rw [rv3_s]
      split
      · exact cf_up (by omega) hu hw' (ih (by omega) (by omega))
      · exact ih (by omega) (by omega)
    · have : c = v + 1 := by omega
      subst this; exact h
/-- what is live behind a setting conflicts with what is set -/
theorem RV_set {P : Pg} (hw : WP P) {b i w : Nat} (hb' : b < P_n P) (hi : i < P_m P b) (hw' : w < 12) (hn : w ≠ P_t P b i) (h : hb (lv P (LV P) b (i + 1)) w = true) : hb (RV P (P_t P b i)) w = true := by
  have hn8 := hw.1.2
  have ht := hw.2.2.2.2.2.2.2.2.1 b (by omega) i hi
  refine rv3_up (R := fun _ => 0) ht hw' (c := 0) ?_ 12 (Nat.zero_le _) (Nat.le_refl _)
  refine rv2_up hw (R := fun _ => 0) ht hw' (c := b + 1) ?_ _ (by omega) (Nat.le_refl _)
  refine rv1_up hw (by omega) ht hw' (j := i + 1) ?_ _ (by omega) (Nat.le_refl _)
  exact cf_new ht hw' hn h
