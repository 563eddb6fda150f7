/-! folds and loops in general -/
def itr {A : Type} (f : Nat → A → A) (a : A) : Nat → A
  | 0 => a
  | k + 1 => f k (itr f a k)
theorem itr_cg {A : Type} {f g : Nat → A → A} {a : A} {n : Nat} (h : ∀ k, k < n → ∀ x, f k x = g k x) : itr f a n = itr g a n := by
  induction n with
  | zero => rfl
  | succ n ih =>
    show f n (itr f a n) = g n (itr g a n)
    rw [ih (fun k hk => h k (by omega)), h n (by omega)]
theorem itr_inv {A : Type} {f : Nat → A → A} {a : A} (I : Nat → A → Prop) {n : Nat} (h0 : I 0 a) (h : ∀ k x, k < n → I k x → I (k + 1) (f k x)) : ∀ k, k ≤ n → I k (itr f a k) := by
  intro k
  induction k with
  | zero => intro _; exact h0
  | succ k ih => intro hk; exact h k _ (by omega) (ih (by omega))
theorem or_a (a b c : Int32) : (a ||| b) ||| c = a ||| (b ||| c) := hb_ext (fun i _ => by rw [hb_or, hb_or, hb_or, hb_or]; cases hb a i <;> cases hb b i <;> cases hb c i <;> rfl)
theorem itr_or {F : Nat → Int32} {a : Int32} {n : Nat} : itr (fun k x => x ||| F k) a n = a ||| orF F n := by
  induction n with
  | zero => exact (orB0 a).symm
  | succ n ih =>
    show itr (fun k x => x ||| F k) a n ||| F n = a ||| (orF F n ||| F n)
    rw [ih, or_a]
theorem itr_ad {F : Nat → Int32} {a : Int32} {n : Nat} : itr (fun k x => x + F k) a n = a + adF F n := by
  induction n with
  | zero => exact (Int32.add_zero a).symm
  | succ n ih =>
    show itr (fun k x => x + F k) a n + F n = a + (adF F n + F n)
    rw [ih, Int32.add_assoc]
theorem lp_itr {A R : Type} {step : (A × Int32 → Option R) → A × Int32 → Option R} (f : Nat → A → A) (N : Nat) (g : A → Option R) {a : A} (h1 : ∀ k, k < N → ∀ x rec, step rec (x, nI k) = rec (f k x, nI (k + 1))) (h2 : ∀ x rec, step rec (x, nI N) = g x) {n : Nat} (hn : N < n) : lp step n (a, 0) = g (itr f a N) :=
  lp_fr (fun k => (itr f a k, nI k)) N rfl (fun k hk rec => h1 k hk _ rec) (fun rec => h2 _ rec) hn
theorem lp_inv2 {A R : Type} {step : (A × Int32 → Option R) → A × Int32 → Option R} (J : Nat → A → Prop) (N : Nat) (Q : R → Prop) (h1 : ∀ k a, k < N → J k a → ∃ a', (∀ rec, step rec (a, nI k) = rec (a', nI (k + 1))) ∧ J (k + 1) a') (h2 : ∀ a, J N a → ∃ r, (∀ rec, step rec (a, nI N) = some r) ∧ Q r) {a : A} (h0 : J 0 a) {n : Nat} (hn : N < n) : ∃ r, lp step n (a, 0) = some r ∧ Q r := by
  have key : ∀ j, j ≤ N → ∀ n, j < n → ∀ a, J (N - j) a → ∃ r, lp step n (a, nI (N - j)) = some r ∧ Q r := by
    intro j
    induction j with
    | zero =>
      intro _ n hn a ha
      obtain ⟨m, rfl⟩ : ∃ m, n = m + 1 := ⟨n - 1, by omega⟩
      obtain ⟨r, e, q⟩ := h2 a ha
      exact ⟨r, e _, q⟩
    | succ j ih =>
      intro hj n hn a ha
      obtain ⟨m, rfl⟩ : ∃ m, n = m + 1 := ⟨n - 1, by omega⟩
      obtain ⟨a', e, q⟩ := h1 _ a (by omega) ha
      have e2 : N - (j + 1) + 1 = N - j := by omega
      rw [e2] at e q
      obtain ⟨r, e3, q3⟩ := ih (by omega) m (by omega) a' q
      exact ⟨r, (e _).trans e3, q3⟩
  have := key N (Nat.le_refl _) n hn a (by rw [Nat.sub_self]; exact h0)
  rwa [Nat.sub_self] at this
theorem lp_inv3 {A B R : Type} {step : (A × B × Int32 → Option R) → A × B × Int32 → Option R} (J : Nat → A → B → Prop) (N : Nat) (Q : R → Prop) (h1 : ∀ k a b, k < N → J k a b → ∃ a' b', (∀ rec, step rec (a, b, nI k) = rec (a', b', nI (k + 1))) ∧ J (k + 1) a' b') (h2 : ∀ a b, J N a b → ∃ r, (∀ rec, step rec (a, b, nI N) = some r) ∧ Q r) {a : A} {b : B} (h0 : J 0 a b) {n : Nat} (hn : N < n) : ∃ r, lp step n (a, b, 0) = some r ∧ Q r := by
  have key : ∀ j, j ≤ N → ∀ n, j < n → ∀ a b, J (N - j) a b → ∃ r, lp step n (a, b, nI (N - j)) = some r ∧ Q r := by
    intro j
    induction j with
    | zero =>
      intro _ n hn a b ha
      obtain ⟨m, rfl⟩ : ∃ m, n = m + 1 := ⟨n - 1, by omega⟩
      obtain ⟨r, e, q⟩ := h2 a b ha
      exact ⟨r, e _, q⟩
    | succ j ih =>
      intro hj n hn a b ha
      obtain ⟨m, rfl⟩ : ∃ m, n = m + 1 := ⟨n - 1, by omega⟩
      obtain ⟨a', b', e, q⟩ := h1 _ a b (by omega) ha
      have e2 : N - (j + 1) + 1 = N - j := by omega
      rw [e2] at e q
      obtain ⟨r, e3, q3⟩ := ih (by omega) m (by omega) a' b' q
      exact ⟨r, (e _).trans e3, q3⟩
  have := key N (Nat.le_refl _) n hn a b (by rw [Nat.sub_self]; exact h0)
  rwa [Nat.sub_self] at this
/-- nothing but the places of S has changed -/
def Fq (S : List Nat) (σ σ' : Mm) : Prop := ∀ j, j ∉ S → σ' j = σ j
theorem Fq_rf {S : List Nat} {σ : Mm} : Fq S σ σ := fun _ _ => rfl
theorem Fq.up {S : List Nat} {σ σ' : Mm} (h : Fq S σ σ') {k : Nat} {f : Nat → Int32} (hk : k ∈ S) : Fq S σ (upm σ' k f) := fun j hj => by
  have e : j ≠ k := fun e => by subst e; exact hj hk
  rw [upm_n e]
  exact h j hj
theorem Fq.tr {S T : List Nat} {σ σ1 σ2 : Mm} (h : Fq S σ σ1) (h2 : Fq T σ1 σ2) (hs : ∀ j, j ∈ T → j ∈ S) : Fq S σ σ2 := fun j hj => (h2 j (fun q => hj (hs j q))).trans (h j hj)
theorem Fq.wk {S T : List Nat} {σ σ1 : Mm} (h : Fq T σ σ1) (hs : ∀ j, j ∈ T → j ∈ S) : Fq S σ σ1 := fun j hj => h j (fun q => hj (hs j q))
theorem CP_fq {S : List Nat} {σ σ' : Mm} {P : Pg} (h : Fq S σ σ') (hs : ∀ j, j ∈ S → 44 ≤ j) (hc : CP σ 1 4 P) : CP σ' 1 4 P := CP_cg (fun k _ h2 => h k (fun q => by have := hs k q; omega)) hc
/-! sets: order, passes that stand still -/
def sb (x y : Int32) : Prop := ∀ i, hb x i = true → hb y i = true
theorem sb_rf (x : Int32) : sb x x := fun _ h => h
theorem sb_tr {x y z : Int32} (h : sb x y) (h2 : sb y z) : sb x z := fun i q => h2 i (h i q)
theorem sb_or (x y : Int32) : sb x (x ||| y) := fun i h => by rw [hb_or, h]; rfl
theorem sb_as {x y : Int32} (h : sb x y) (h2 : sb y x) : x = y := hb_ext (fun i _ => Bool.eq_iff_iff.mpr ⟨h i, h2 i⟩)
theorem itr_up {f : Nat → Int32 → Int32} {a : Int32} (h : ∀ k x, sb x (f k x)) {i : Nat} : ∀ j, i ≤ j → sb (itr f a i) (itr f a j) := by
  intro j
  induction j with
  | zero => intro hij; have : i = 0 := by omega
            subst this; exact sb_rf _
  | succ j ih =>
    intro hij
    rcases Nat.lt_or_ge i (j + 1) with c | c
    · exact sb_tr (ih (by omega)) (h j _)
    · have : i = j + 1 := by omega
      subst this; exact sb_rf _
theorem itr_fix {p : Int32 → Int32} {n : Nat} {a : Int32} (ha : lo n a) (hp : ∀ s, lo n s → lo n (p s)) (hm : ∀ s, sb s (p s)) : p (itr (fun _ => p) a n) = itr (fun _ => p) a n := by
  have hl : ∀ k, lo n (itr (fun _ => p) a k) := by
    intro k
    induction k with
    | zero => exact ha
    | succ k ih => exact hp _ ih
  have h := stable (Y := fun k t => hb (itr (fun _ => p) a k) t) (n := n) (fun k t _ q => hm _ t q) (fun k hk t _ => by
    have e : itr (fun _ => p) a k = itr (fun _ => p) a (k + 1) := lo_ext (hl k) (hl (k + 1)) hk
    show hb (p (itr (fun _ => p) a k)) t = hb (p (itr (fun _ => p) a (k + 1))) t
    rw [← e])
  exact (lo_ext (hl n) (hl (n + 1)) h).symm
/-- a pass that changes nothing: no step of it does -/
theorem itr_st {f : Nat → Int32 → Int32} {a : Int32} {n : Nat} (h : ∀ k x, sb x (f k x)) (e : itr f a n = a) {j : Nat} (hj : j < n) : itr f a j = a ∧ f j a = a := by
  have e1 : itr f a j = a := sb_as (by have := itr_up (a := a) h (i := j) n (by omega); rwa [e] at this) (itr_up (a := a) h (i := 0) j (by omega))
  refine ⟨e1, ?_⟩
  have e2 : itr f a (j + 1) = a := sb_as (by have := itr_up (a := a) h (i := j + 1) n (by omega); rwa [e] at this) (itr_up (a := a) h (i := 0) (j + 1) (by omega))
  have e3 : itr f a (j + 1) = f j (itr f a j) := rfl
  rw [e1] at e3
  rw [← e3, e2]
/-! counting -/
theorem cnt_up {p : Nat → Bool} {i : Nat} : ∀ j, i ≤ j → cnt p i ≤ cnt p j := by
  intro j
  induction j with
  | zero => intro h; have : i = 0 := by omega
            subst this; exact Nat.le_refl _
  | succ j ih =>
    intro h
    rcases Nat.lt_or_ge i (j + 1) with c | c
    · exact Nat.le_trans (ih (by omega)) (by simp only [cnt]; split <;> omega)
    · have : i = j + 1 := by omega
      subst this; exact Nat.le_refl _
theorem cnt_lt {p : Nat → Bool} {i j : Nat} (h : i < j) (hp : p i = true) : cnt p i < cnt p j := by
  have h1 := @cnt_up p (i + 1) j h
  have h2 : cnt p (i + 1) = cnt p i + 1 := by simp only [cnt, hp, if_true]
  omega
theorem cnt_cg {p q : Nat → Bool} {n : Nat} (h : ∀ k, k < n → p k = q k) : cnt p n = cnt q n := by
  induction n with
  | zero => rfl
  | succ n ih => simp only [cnt]; rw [ih (fun k hk => h k (by omega)), h n (by omega)]
theorem cnt_0 {p : Nat → Bool} {n : Nat} : cnt p n = 0 ↔ ∀ k, k < n → p k = false := by
  constructor
  · intro h k hk
    cases e : p k
    · rfl
    · have := cnt_lt hk e
      omega
  · intro h
    induction n with
    | zero => rfl
    | succ n ih => simp only [cnt]; rw [ih (fun k hk => h k (by omega)), h n (by omega)]; rfl
theorem cnt_ex {p : Nat → Bool} {n l : Nat} (h : l < cnt p n) : ∃ k, k < n ∧ p k = true ∧ cnt p k = l := by
  induction n with
  | zero => simp [cnt] at h
  | succ n ih =>
    simp only [cnt] at h
    rcases Nat.lt_or_ge l (cnt p n) with c | c
    · obtain ⟨k, h1, h2, h3⟩ := ih c
      exact ⟨k, by omega, h2, h3⟩
    · cases e : p n
      · rw [e] at h; simp at h; omega
      · rw [e] at h; simp at h
        exact ⟨n, by omega, e, by omega⟩
/-- the l-th k with p -/
def nth (p : Nat → Bool) (l : Nat) : Nat → Nat
  | 0 => 0
  | k + 1 => if p k = true ∧ cnt p k = l then k else nth p l k
theorem nth_at {p : Nat → Bool} {n k : Nat} (hk : k < n) (hp : p k = true) : nth p (cnt p k) n = k := by
  induction n with
  | zero => omega
  | succ n ih =>
    simp only [nth]
    split
    · next h =>
      rcases Nat.lt_or_ge k n with c | c
      · have := cnt_lt c hp
        omega
      · omega
    · next h =>
      rcases Nat.lt_or_ge k n with c | c
      · exact ih c
      · have : k = n := by omega
        subst this
        exact absurd ⟨hp, rfl⟩ h
theorem nth_ok {p : Nat → Bool} {n l : Nat} (h : l < cnt p n) : nth p l n < n ∧ p (nth p l n) = true ∧ cnt p (nth p l n) = l := by
  obtain ⟨k, h1, h2, h3⟩ := cnt_ex h
  subst h3
  rw [nth_at h1 h2]
  exact ⟨h1, h2, rfl⟩
theorem nth_inj {p : Nat → Bool} {n l m : Nat} (h : l < cnt p n) (h2 : m < cnt p n) (e : nth p l n = nth p m n) : l = m := by
  have := (nth_ok h).2.2
  have := (nth_ok h2).2.2
  rw [e] at *
  omega
/-! loops with an early end -/
theorem lp_inv2e {A R : Type} {step : (A × Int32 → Option R) → A × Int32 → Option R} (J : Nat → A → Prop) (N : Nat) (Q : R → Prop) (h1 : ∀ k a, k < N → J k a → (∃ r, (∀ rec, step rec (a, nI k) = some r) ∧ Q r) ∨ ∃ a', (∀ rec, step rec (a, nI k) = rec (a', nI (k + 1))) ∧ J (k + 1) a') (h2 : ∀ a, J N a → ∃ r, (∀ rec, step rec (a, nI N) = some r) ∧ Q r) {a : A} (h0 : J 0 a) {n : Nat} (hn : N < n) : ∃ r, lp step n (a, 0) = some r ∧ Q r := by
  refine lp_ix (fun m s => m ≤ N ∧ s.2 = nI (N - m) ∧ J (N - m) s.1) Q ?_ n N (a, 0) ⟨Nat.le_refl _, by rw [Nat.sub_self]; rfl, by rw [Nat.sub_self]; exact h0⟩ hn
  rintro m ⟨a, x⟩ ⟨hm, hx, hJ⟩
  have hx' : x = nI (N - m) := hx
  subst hx'
  rcases Nat.eq_zero_or_pos m with e | e
  · subst e
    exact Or.inl (h2 a hJ)
  · rcases h1 (N - m) a (by omega) hJ with h | ⟨a', q1, q2⟩
    · exact Or.inl h
    · have e2 : N - m + 1 = N - (m - 1) := by omega
      rw [e2] at q1 q2
      exact Or.inr ⟨m - 1, (a', nI (N - (m - 1))), q1, ⟨by omega, rfl, q2⟩, by omega⟩
theorem lp_inv1e {R : Type} {step : (Int32 → Option R) → Int32 → Option R} (J : Nat → Prop) (N : Nat) (Q : R → Prop) (h1 : ∀ k, k < N → J k → (∃ r, (∀ rec, step rec (nI k) = some r) ∧ Q r) ∨ ((∀ rec, step rec (nI k) = rec (nI (k + 1))) ∧ J (k + 1))) (h2 : J N → ∃ r, (∀ rec, step rec (nI N) = some r) ∧ Q r) (h0 : J 0) {n : Nat} (hn : N < n) : ∃ r, lp step n 0 = some r ∧ Q r := by
  refine lp_ix (fun m x => m ≤ N ∧ x = nI (N - m) ∧ J (N - m)) Q ?_ n N 0 ⟨Nat.le_refl _, by rw [Nat.sub_self]; rfl, by rw [Nat.sub_self]; exact h0⟩ hn
  rintro m x ⟨hm, hx, hJ⟩
  subst hx
  rcases Nat.eq_zero_or_pos m with e | e
  · subst e
    exact Or.inl (h2 hJ)
  · rcases h1 (N - m) (by omega) hJ with h | ⟨q1, q2⟩
    · exact Or.inl h
    · have e2 : N - m + 1 = N - (m - 1) := by omega
      rw [e2] at q1 q2
      exact Or.inr ⟨m - 1, nI (N - (m - 1)), q1, ⟨by omega, rfl, q2⟩, by omega⟩
