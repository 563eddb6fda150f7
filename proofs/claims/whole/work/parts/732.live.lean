/-! what is live: the least solution, whatever the order of the passes -/
def lr (P : Pg) (L : Nat → Int32) (b : Nat) : Nat → Int32
  | 0 => orF (fun t => if gt P b t then L t else 0) (P_n P) ||| eu P b
  | j + 1 => (lr P L b j &&& (b1 (P_t P b (P_m P b - 1 - j)) ^^^ (-1))) ||| us P b (P_m P b - 1 - j)
def lv (P : Pg) (L : Nat → Int32) (b i : Nat) : Int32 := lr P L b (P_m P b - i)
theorem lr_mono {P : Pg} {L L' : Nat → Int32} {b v : Nat} (h : ∀ t, t < P_n P → hb (L t) v = true → hb (L' t) v = true) (j : Nat) : hb (lr P L b j) v = true → hb (lr P L' b j) v = true := by
  induction j with
  | zero =>
    simp only [lr, hb_or, Bool.or_eq_true, hb_orF, anyF_iff]
    rintro (⟨k, h1, h2⟩ | h1)
    · refine Or.inl ⟨k, h1, ?_⟩
      cases hg : gt P b k
      · rw [hg] at h2; simp [hb_0] at h2
      · rw [hg] at h2; simp only [if_true] at h2 ⊢; exact h k h1 h2
    · exact Or.inr h1
  | succ j ih =>
    simp only [lr, hb_or, hb_and, Bool.or_eq_true, Bool.and_eq_true]
    rintro (⟨h1, h2⟩ | h1)
    · exact Or.inl ⟨ih h1, h2⟩
    · exact Or.inr h1
theorem lv_mono {P : Pg} {L L' : Nat → Int32} {b v i : Nat} (h : ∀ t, t < P_n P → hb (L t) v = true → hb (L' t) v = true) : hb (lv P L b i) v = true → hb (lv P L' b i) v = true := lr_mono h _
theorem lv_bit {P : Pg} {L L' : Nat → Int32} {b v i : Nat} (h : ∀ t, t < P_n P → hb (L t) v = hb (L' t) v) : hb (lv P L b i) v = hb (lv P L' b i) v := by
  apply Bool.eq_iff_iff.mpr
  exact ⟨lv_mono (fun t ht q => by rw [← h t ht]; exact q), lv_mono (fun t ht q => by rw [h t ht]; exact q)⟩
theorem lv_cg {P : Pg} {L L' : Nat → Int32} {b i : Nat} (h : ∀ t, t < P_n P → L t = L' t) : lv P L b i = lv P L' b i := hb_ext (fun v _ => lv_bit (fun t ht => by rw [h t ht]))
theorem lo_us {P : Pg} (hw : WP P) {b i : Nat} (hb : b < 8) (hi : i < P_m P b) : lo 12 (us P b i) := by
  obtain ⟨-, -, -, -, -, -, -, -, -, w3, w4⟩ := hw
  unfold us
  by_cases h0 : P_k P b i = 0
  · rw [if_pos h0]; exact lo_0 12
  · rw [if_neg h0]
    obtain ⟨-, l1⟩ := w3 b hb i hi h0
    by_cases h1 : P_k P b i = 1
    · rw [if_pos h1]; exact lo_b1 l1 (by omega)
    · rw [if_neg h1]
      obtain ⟨-, l2⟩ := w4 b hb i hi (by omega)
      exact lo_or (lo_b1 l1 (by omega)) (lo_b1 l2 (by omega))
theorem lo_eu {P : Pg} (hw : WP P) {b : Nat} (hb : b < 8) : lo 12 (eu P b) := by
  unfold eu
  by_cases h0 : P_e P b = 0
  · rw [if_pos h0]; exact lo_0 12
  · rw [if_neg h0]
    have := hw.2.2.2.1 b hb h0
    exact lo_b1 this (by omega)
theorem lo_lr {P : Pg} (hw : WP P) {L : Nat → Int32} (hL : ∀ t, t < P_n P → lo 12 (L t)) {b : Nat} (hb : b < 8) (j : Nat) (hj : j ≤ P_m P b) : lo 12 (lr P L b j) := by
  induction j with
  | zero =>
    refine lo_or (lo_orF (fun k hk => ?_)) (lo_eu hw hb)
    cases gt P b k
    · exact lo_0 12
    · exact hL k hk
  | succ j ih => exact lo_or (lo_andL (ih (by omega))) (lo_us hw hb (by omega))
theorem lo_lv {P : Pg} (hw : WP P) {L : Nat → Int32} (hL : ∀ t, t < P_n P → lo 12 (L t)) {b i : Nat} (hb : b < 8) : lo 12 (lv P L b i) := lo_lr hw hL hb _ (by omega)
/-- closed: what is live at a beginning by L is in L -/
def lcl (P : Pg) (L : Nat → Int32) : Prop := ∀ b, b < P_n P → ∀ v, hb (lv P L b 0) v = true → hb (L b) v = true
def lbe (P : Pg) (L : Nat → Int32) : Prop := ∀ L', lcl P L' → ∀ b, b < P_n P → ∀ v, hb (L b) v = true → hb (L' b) v = true
def lin (P : Pg) (L : Nat → Int32) : Prop := ∀ b, b < P_n P → ∀ v, hb (L b) v = true → hb (lv P L b 0) v = true
theorem l_uniq {P : Pg} {L L' : Nat → Int32} (h1 : lcl P L) (h2 : lbe P L) (h3 : lcl P L') (h4 : lbe P L') {b : Nat} (hb' : b < P_n P) : L b = L' b := by
  apply hb_ext
  intro v _
  exact Bool.eq_iff_iff.mpr ⟨h2 L' h3 b hb' v, h4 L h1 b hb' v⟩
/-- one step: block b is looked at -/
def ls (P : Pg) (L : Nat → Int32) (b : Nat) : Nat → Int32 := upd L b (lv P L b 0)
theorem ls_up {P : Pg} {L : Nat → Int32} (h : lin P L) {b t v : Nat} (hb' : b < P_n P) : hb (L t) v = true → hb (ls P L b t) v = true := by
  intro q
  unfold ls
  rw [upd_a]
  split
  · next e => subst e; exact h _ hb' v q
  · exact q
theorem ls_lin {P : Pg} {L : Nat → Int32} (h : lin P L) {b : Nat} (hb' : b < P_n P) : lin P (ls P L b) := by
  intro c hc v q
  have up : ∀ t, t < P_n P → hb (L t) v = true → hb (ls P L b t) v = true := fun t _ => ls_up h hb'
  by_cases e : c = b
  · subst e
    have q2 : hb (lv P L c 0) v = true := by
      unfold ls at q
      rw [upd_a, if_pos rfl] at q
      exact q
    exact lv_mono up q2
  · have q2 : hb (L c) v = true := by
      unfold ls at q
      rw [upd_a, if_neg e] at q
      exact q
    exact lv_mono up (h c hc v q2)
theorem ls_lbe {P : Pg} {L : Nat → Int32} (h : lbe P L) {b : Nat} (hb' : b < P_n P) : lbe P (ls P L b) := by
  intro L' hc c hcn v q
  unfold ls at q
  rw [upd_a] at q
  split at q
  · next e =>
    subst e
    exact hc c hcn v (lv_mono (fun t ht => h L' hc t ht v) q)
  · exact h L' hc c hcn v q
theorem ls_bit {P : Pg} {L L' : Nat → Int32} {v : Nat} (h : ∀ t, t < P_n P → hb (L t) v = hb (L' t) v) {b : Nat} : ∀ t, t < P_n P → hb (ls P L b t) v = hb (ls P L' b t) v := by
  intro t ht
  unfold ls
  rw [upd_a, upd_a]
  split
  · exact lv_bit h
  · exact h t ht
theorem ls_lo {P : Pg} (hw : WP P) {L : Nat → Int32} {b : Nat} (hb' : b < P_n P) (h : ∀ t, t < P_n P → lo 12 (L t)) : ∀ t, t < P_n P → lo 12 (ls P L b t) := by
  intro t ht
  unfold ls
  rw [upd_a]
  split
  · exact lo_lv hw h (by have := hw.1.2; omega)
  · exact h t ht
/-- a pass, in the order o -/
def ps (P : Pg) (o : Nat → Nat) (L : Nat → Int32) : Nat → Nat → Int32
  | 0 => L
  | j + 1 => ls P (ps P o L j) (o j)
theorem ps_lin {P : Pg} {o : Nat → Nat} {L : Nat → Int32} (ho : ∀ j, j < P_n P → o j < P_n P) (h : lin P L) {j : Nat} (hj : j ≤ P_n P) : lin P (ps P o L j) := by
  induction j with
  | zero => exact h
  | succ j ih => exact ls_lin (ih (by omega)) (ho j (by omega))
theorem ps_up {P : Pg} {o : Nat → Nat} {L : Nat → Int32} (ho : ∀ j, j < P_n P → o j < P_n P) (h : lin P L) {i t v : Nat} : ∀ j, i ≤ j → j ≤ P_n P → hb (ps P o L i t) v = true → hb (ps P o L j t) v = true := by
  intro j
  induction j with
  | zero => intro h1 _ q; have : i = 0 := by omega
            subst this; exact q
  | succ j ih =>
    intro h1 h2 q
    rcases Nat.lt_or_ge i (j + 1) with c | c
    · exact ls_up (ps_lin ho h (by omega)) (ho j (by omega)) (ih (by omega) (by omega) q)
    · have : i = j + 1 := by omega
      subst this; exact q
theorem ps_lbe {P : Pg} {o : Nat → Nat} {L : Nat → Int32} (ho : ∀ j, j < P_n P → o j < P_n P) (h : lbe P L) {j : Nat} (hj : j ≤ P_n P) : lbe P (ps P o L j) := by
  induction j with
  | zero => exact h
  | succ j ih => exact ls_lbe (ih (by omega)) (ho j (by omega))
theorem ps_bit {P : Pg} {o : Nat → Nat} {L L' : Nat → Int32} {v : Nat} (h : ∀ t, t < P_n P → hb (L t) v = hb (L' t) v) (j : Nat) : ∀ t, t < P_n P → hb (ps P o L j t) v = hb (ps P o L' j t) v := by
  induction j with
  | zero => exact h
  | succ j ih => exact ls_bit ih
theorem ps_lo {P : Pg} (hw : WP P) {o : Nat → Nat} {L : Nat → Int32} (ho : ∀ j, j < P_n P → o j < P_n P) (h : ∀ t, t < P_n P → lo 12 (L t)) {j : Nat} (hj : j ≤ P_n P) : ∀ t, t < P_n P → lo 12 (ps P o L j t) := by
  induction j with
  | zero => exact h
  | succ j ih => exact ls_lo hw (ho j (by omega)) (ih (by omega))
/-- passes -/
def pp (P : Pg) (o : Nat → Nat) (L : Nat → Int32) : Nat → Nat → Int32
  | 0 => L
  | k + 1 => ps P o (pp P o L k) (P_n P)
/-! a growing row of sets of at most n members stands still behind n steps -/
def cnt (p : Nat → Bool) : Nat → Nat
  | 0 => 0
  | k + 1 => cnt p k + (if p k then 1 else 0)
theorem cnt_le {p : Nat → Bool} {n : Nat} : cnt p n ≤ n := by
  induction n with
  | zero => exact Nat.le_refl _
  | succ n ih => simp only [cnt]; split <;> omega
theorem cnt_mono {p q : Nat → Bool} {n : Nat} (h : ∀ k, k < n → p k = true → q k = true) : cnt p n ≤ cnt q n := by
  induction n with
  | zero => exact Nat.le_refl _
  | succ n ih =>
    have h1 := ih (fun k hk => h k (by omega))
    have h2 := h n (by omega)
    simp only [cnt]
    cases hp : p n
    · simp; omega
    · rw [h2 hp]; simp; omega
theorem cnt_same {p q : Nat → Bool} {n : Nat} (h : ∀ k, k < n → p k = true → q k = true) (e : cnt q n ≤ cnt p n) : ∀ k, k < n → p k = q k := by
  induction n with
  | zero => intro k hk; omega
  | succ n ih =>
    have h1 := cnt_mono (fun k (hk : k < n) => h k (by omega))
    have h2 := h n (by omega)
    simp only [cnt] at e
    intro k hk
    cases hp : p n <;> cases hq : q n <;> rw [hp, hq] at e <;> simp at e
    · rcases Nat.lt_or_ge k n with c | c
      · exact ih (fun k hk => h k (by omega)) e k c
      · have : k = n := by omega
        subst this; rw [hp, hq]
    · omega
    · rw [hp, hq] at h2; exact absurd (h2 rfl) (by decide)
    · rcases Nat.lt_or_ge k n with c | c
      · exact ih (fun k hk => h k (by omega)) e k c
      · have : k = n := by omega
        subst this; rw [hp, hq]
theorem cnt_full {p : Nat → Bool} {n : Nat} (h : n ≤ cnt p n) : ∀ k, k < n → p k = true := by
  intro k hk
  have h1 : cnt (fun _ => true) n = n := by
    clear h hk
    induction n with
    | zero => rfl
    | succ n ih => simp only [cnt, ih]; simp
  exact (cnt_same (p := p) (q := fun _ => true) (fun _ _ _ => rfl) (by omega) k hk)
theorem stable {Y : Nat → Nat → Bool} {n : Nat} (h1 : ∀ k t, t < n → Y k t = true → Y (k + 1) t = true) (h2 : ∀ k, (∀ t, t < n → Y k t = Y (k + 1) t) → ∀ t, t < n → Y (k + 1) t = Y (k + 2) t) : ∀ t, t < n → Y n t = Y (n + 1) t := by
  have key : ∀ k, (∀ t, t < n → Y k t = Y (k + 1) t) ∨ k < cnt (Y (k + 1)) n := by
    intro k
    induction k with
    | zero =>
      rcases Nat.eq_zero_or_pos (cnt (Y 1) n) with c | c
      · exact Or.inl (cnt_same (fun t ht q => h1 0 t ht q) (by have c2 : cnt (Y (0 + 1)) n = 0 := c; omega))
      · exact Or.inr c
    | succ k ih =>
      rcases ih with ih | ih
      · exact Or.inl (h2 k ih)
      · have m := cnt_mono (fun t ht q => h1 (k + 1) t ht q)
        rcases Nat.lt_or_ge (k + 1) (cnt (Y (k + 1 + 1)) n) with c | c
        · exact Or.inr c
        · exact Or.inl (cnt_same (fun t ht q => h1 (k + 1) t ht q) (by omega))
  rcases key n with h | h
  · exact h
  · have := @cnt_le (Y (n + 1)) n
    omega
theorem pp_lin {P : Pg} {o : Nat → Nat} {L : Nat → Int32} (ho : ∀ j, j < P_n P → o j < P_n P) (h : lin P L) (k : Nat) : lin P (pp P o L k) := by
  induction k with
  | zero => exact h
  | succ k ih => exact ps_lin ho ih (Nat.le_refl _)
theorem pp_lbe {P : Pg} {o : Nat → Nat} {L : Nat → Int32} (ho : ∀ j, j < P_n P → o j < P_n P) (h : lbe P L) (k : Nat) : lbe P (pp P o L k) := by
  induction k with
  | zero => exact h
  | succ k ih => exact ps_lbe ho ih (Nat.le_refl _)
theorem pp_lo {P : Pg} (hw : WP P) {o : Nat → Nat} {L : Nat → Int32} (ho : ∀ j, j < P_n P → o j < P_n P) (h : ∀ t, t < P_n P → lo 12 (L t)) (k : Nat) : ∀ t, t < P_n P → lo 12 (pp P o L k t) := by
  induction k with
  | zero => exact h
  | succ k ih => exact ps_lo hw ho ih (Nat.le_refl _)
theorem lin_0 {P : Pg} {L : Nat → Int32} (h : ∀ t, t < P_n P → L t = 0) : lin P L := fun b hb' v q => by rw [h b hb', hb_0] at q; cases q
theorem lbe_0 {P : Pg} {L : Nat → Int32} (h : ∀ t, t < P_n P → L t = 0) : lbe P L := fun L' _ b hb' v q => by rw [h b hb', hb_0] at q; cases q
theorem pp_same {P : Pg} {o : Nat → Nat} {L : Nat → Int32} (ho : ∀ j, j < P_n P → o j < P_n P) (h : lin P L) : ∀ t, t < P_n P → pp P o L (P_n P) t = pp P o L (P_n P + 1) t := by
  intro t ht
  apply hb_ext
  intro v _
  refine stable (Y := fun k t => hb (pp P o L k t) v) (n := P_n P) ?_ ?_ t ht
  · intro k t _ q
    exact ps_up ho (pp_lin ho h k) (i := 0) (P_n P) (by omega) (Nat.le_refl _) q
  · intro k hk t ht
    exact ps_bit hk (P_n P) t ht
/-- a pass that changes nothing: closed -/
theorem ps_cl {P : Pg} {o : Nat → Nat} {L : Nat → Int32} (ho : ∀ j, j < P_n P → o j < P_n P) (hc : ∀ b, b < P_n P → ∃ j, j < P_n P ∧ o j = b) (h : lin P L) (he : ∀ t, t < P_n P → L t = ps P o L (P_n P) t) : lcl P L := by
  intro b hb' v q
  obtain ⟨j, hj, rfl⟩ := hc b hb'
  rw [he _ hb']
  refine ps_up ho h (i := j + 1) (P_n P) (by omega) (Nat.le_refl _) ?_
  show hb (ls P (ps P o L j) (o j) (o j)) v = true
  unfold ls
  rw [upd_a, if_pos rfl]
  exact lv_mono (fun t ht => ps_up ho h (i := 0) j (by omega) (by omega)) q
/-- a pass that changes nothing: every step of it changes nothing -/
theorem ps_in {P : Pg} {o : Nat → Nat} {L : Nat → Int32} (ho : ∀ j, j < P_n P → o j < P_n P) (h : lin P L) (he : ∀ t, t < P_n P → L t = ps P o L (P_n P) t) {j : Nat} (hj : j ≤ P_n P) : ∀ t, t < P_n P → ps P o L j t = L t := by
  intro t ht
  apply hb_ext
  intro v _
  apply Bool.eq_iff_iff.mpr
  constructor
  · intro q
    rw [he t ht]
    exact ps_up ho h (P_n P) hj (Nat.le_refl _) q
  · exact ps_up ho h (i := 0) j (by omega) hj
/-- what is live at the beginnings -/
def LV (P : Pg) : Nat → Int32 := pp P (fun j => P_n P - 1 - j) (fun _ => 0) (P_n P)
theorem od_lt {P : Pg} : ∀ j, j < P_n P → (fun j => P_n P - 1 - j) j < P_n P := fun j hj => by show P_n P - 1 - j < P_n P; omega
theorem od_on {P : Pg} : ∀ b, b < P_n P → ∃ j, j < P_n P ∧ (fun j => P_n P - 1 - j) j = b := fun b hb' => ⟨P_n P - 1 - b, by omega, by show P_n P - 1 - (P_n P - 1 - b) = b; omega⟩
theorem LV_lin (P : Pg) : lin P (LV P) := pp_lin od_lt (lin_0 (fun _ _ => rfl)) _
theorem LV_cl (P : Pg) : lcl P (LV P) := ps_cl od_lt od_on (LV_lin P) (pp_same od_lt (lin_0 (fun _ _ => rfl)))
theorem LV_be (P : Pg) : lbe P (LV P) := pp_lbe od_lt (lbe_0 (fun _ _ => rfl)) _
theorem LV_lo {P : Pg} (hw : WP P) {t : Nat} (ht : t < P_n P) : lo 12 (LV P t) := pp_lo hw od_lt (fun _ _ => lo_0 12) _ t ht
theorem LV_fix {P : Pg} {b : Nat} (hb' : b < P_n P) : LV P b = lv P (LV P) b 0 := by
  apply hb_ext
  intro v _
  exact Bool.eq_iff_iff.mpr ⟨LV_lin P b hb' v, LV_cl P b hb' v⟩
