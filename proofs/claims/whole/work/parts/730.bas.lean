/-! the pure part: numbers, bits, loops -/
theorem gN {α : Type} {k n : Nat} {X : Option α} (h : k < n) (hn : n < 2 ^ 31) : gd (nI k) n X = X := if_neg (nI_in h hn)
theorem gN0 {α : Type} {n : Nat} {X : Option α} (h : 0 < n) (hn : n < 2 ^ 31) : gd 0 n X = X := gN (k := 0) h hn
theorem gN1 {α : Type} {n : Nat} {X : Option α} (h : 1 < n) (hn : n < 2 ^ 31) : gd 1 n X = X := gN (k := 1) h hn
theorem gN2 {α : Type} {n : Nat} {X : Option α} (h : 2 < n) (hn : n < 2 ^ 31) : gd 2 n X = X := gN (k := 2) h hn
theorem gN3 {α : Type} {n : Nat} {X : Option α} (h : 3 < n) (hn : n < 2 ^ 31) : gd 3 n X = X := gN (k := 3) h hn
theorem lit (c : Nat) : (OfNat.ofNat c : Int32) = nI (OfNat.ofNat c) := rfl
theorem li_le {c k : Nat} (hc : (OfNat.ofNat c : Nat) < 2 ^ 31) (hk : k < 2 ^ 31) : (no_index (OfNat.ofNat c : Int32)) ≤ nI k ↔ OfNat.ofNat c ≤ k := nI_leI hc hk
theorem li_lt {c k : Nat} (hc : (OfNat.ofNat c : Nat) < 2 ^ 31) (hk : k < 2 ^ 31) : (no_index (OfNat.ofNat c : Int32)) < nI k ↔ OfNat.ofNat c < k := nI_ltI hc hk
theorem le_li {c k : Nat} (hc : (OfNat.ofNat c : Nat) < 2 ^ 31) (hk : k < 2 ^ 31) : nI k ≤ (no_index (OfNat.ofNat c : Int32)) ↔ k ≤ OfNat.ofNat c := nI_leI hk hc
theorem lt_li {c k : Nat} (hc : (OfNat.ofNat c : Nat) < 2 ^ 31) (hk : k < 2 ^ 31) : nI k < (no_index (OfNat.ofNat c : Int32)) ↔ k < OfNat.ofNat c := nI_ltI hk hc
theorem eq_li {c k : Nat} (hc : (OfNat.ofNat c : Nat) < 2 ^ 31) (hk : k < 2 ^ 31) : nI k = (no_index (OfNat.ofNat c : Int32)) ↔ k = OfNat.ofNat c := nI_eq hk hc
theorem li_eq {c k : Nat} (hc : (OfNat.ofNat c : Nat) < 2 ^ 31) (hk : k < 2 ^ 31) : (no_index (OfNat.ofNat c : Int32)) = nI k ↔ OfNat.ofNat c = k := nI_eq hc hk
theorem li_mul {c k : Nat} : (no_index (OfNat.ofNat c : Int32)) * nI k = nI (OfNat.ofNat c * k) := pk_mul _ _
theorem mul_li {c k : Nat} : nI k * (no_index (OfNat.ofNat c : Int32)) = nI (k * OfNat.ofNat c) := pk_mul _ _
theorem add_li {c k : Nat} : nI k + (no_index (OfNat.ofNat c : Int32)) = nI (k + OfNat.ofNat c) := nI_add _ _
theorem sub_li {c k : Nat} (h : OfNat.ofNat c ≤ k) : nI k - (no_index (OfNat.ofNat c : Int32)) = nI (k - OfNat.ofNat c) := pk_sub h
theorem m1_li {k : Nat} (h : 0 < k) : nI k + (-1) = nI (k - 1) := sb_m1 h
theorem nI_ne_m1 {k : Nat} (h : k < 2 ^ 31) : ¬ nI k = -1 := by
  intro e
  have h1 := congrArg Int32.toInt e
  rw [nI_toInt h] at h1
  have h2 : (-1 : Int32).toInt = -1 := by decide
  omega
theorem m1_ne_nI {k : Nat} (h : k < 2 ^ 31) : ¬ -1 = nI k := fun e => nI_ne_m1 h e.symm
theorem nI_ge0 {k : Nat} (h : k < 2 ^ 31) : ¬ nI k < 0 := nI_pos h
theorem lt_iff (x y : Int32) : x < y ↔ x.toInt < y.toInt := Int32.lt_iff_toInt_lt
theorem le_iff (x y : Int32) : x ≤ y ↔ x.toInt ≤ y.toInt := Int32.le_iff_toInt_le
/-! bits -/
def hb (x : Int32) (i : Nat) : Bool := x.toBitVec.getLsbD i
def b1 (k : Nat) : Int32 := (1 : Int32) <<< (nI k &&& 31)
theorem hb_ext {x y : Int32} (h : ∀ i, i < 32 → hb x i = hb y i) : x = y := Int32.toBitVec_inj.mp (BitVec.eq_of_getLsbD_eq (fun i hi => h i hi))
theorem hb_or (x y : Int32) (i : Nat) : hb (x ||| y) i = (hb x i || hb y i) := by unfold hb; rw [Int32.toBitVec_or, BitVec.getLsbD_or]
theorem hb_and (x y : Int32) (i : Nat) : hb (x &&& y) i = (hb x i && hb y i) := by unfold hb; rw [Int32.toBitVec_and, BitVec.getLsbD_and]
theorem hb_xor (x y : Int32) (i : Nat) : hb (x ^^^ y) i = (hb x i ^^ hb y i) := by unfold hb; rw [Int32.toBitVec_xor, BitVec.getLsbD_xor]
theorem hb_big {x : Int32} {i : Nat} (h : 32 ≤ i) : hb x i = false := BitVec.getLsbD_of_ge _ _ h
theorem hb_m1 : ∀ i, i < 32 → hb (-1) i = true := by decide +kernel
theorem hb_0 (i : Nat) : hb 0 i = false := BitVec.getLsbD_zero
theorem hb_1 (i : Nat) : hb 1 i = decide (i = 0) := by
  rcases Nat.lt_or_ge i 32 with h | h
  · exact (by decide +kernel : ∀ i, i < 32 → hb 1 i = decide (i = 0)) i h
  · rw [hb_big h, decide_eq_false (by omega)]
theorem hb_not {x : Int32} {i : Nat} (h : i < 32) : hb (x ^^^ (-1)) i = !(hb x i) := by
  rw [hb_xor, hb_m1 i h]
  cases hb x i <;> rfl
theorem bs_l : ∀ n, n < 32 → ((nI n &&& 31).toBitVec.smod 32).toNat = n := by decide +kernel
theorem hb_b1 {k i : Nat} (hk : k < 32) : hb (b1 k) i = decide (k = i) := by
  rcases Nat.lt_or_ge i 32 with h | h
  · exact (by decide +kernel : ∀ k, k < 32 → ∀ i, i < 32 → hb (b1 k) i = decide (k = i)) k hk i h
  · rw [hb_big h, decide_eq_false (by omega)]
theorem hb_shr {x : Int32} {n i : Nat} (hn : n < 32) (hi : i < 32) : hb (x >>> (nI n &&& 31)) i = if n + i < 32 then hb x (n + i) else hb x 31 := by
  unfold hb
  rw [Int32.toBitVec_shiftRight]
  show (x.toBitVec.sshiftRight ((nI n &&& 31).toBitVec.smod 32).toNat).getLsbD i = _
  rw [bs_l n hn, BitVec.getLsbD_sshiftRight, BitVec.msb_eq_getLsbD_last]
  simp [hi]
theorem bit_of {x : Int32} {k : Nat} (hk : k < 32) : (x >>> (nI k &&& 31)) &&& 1 = if hb x k then 1 else 0 := by
  apply hb_ext
  intro i hi
  rw [hb_and, hb_1, hb_shr hk hi]
  by_cases h0 : i = 0
  · subst h0
    rw [if_pos (by omega)]
    cases h : hb x (k + 0) <;> simp at h <;> simp [h, hb_0, hb_1]
  · cases h : hb x k <;> simp [h0, hb_0, hb_1]
def hI (x : Int32) (k : Nat) : Int32 := if hb x k then 1 else 0
theorem hI_0 {x : Int32} {k : Nat} : hI x k = 0 ↔ hb x k = false := by unfold hI; cases hb x k <;> simp
theorem hI_1 {x : Int32} {k : Nat} : hI x k = 1 ↔ hb x k = true := by unfold hI; cases hb x k <;> simp
/-- sets that hold only numbers under m -/
def lo (m : Nat) (x : Int32) : Prop := ∀ i, m ≤ i → hb x i = false
theorem lo_ext {m : Nat} {x y : Int32} (hx : lo m x) (hy : lo m y) (h : ∀ i, i < m → hb x i = hb y i) : x = y := by
  apply hb_ext
  intro i _
  rcases Nat.lt_or_ge i m with q | q
  · exact h i q
  · rw [hx i q, hy i q]
theorem lo_0 (m : Nat) : lo m 0 := fun i _ => hb_0 i
theorem lo_or {m : Nat} {x y : Int32} (hx : lo m x) (hy : lo m y) : lo m (x ||| y) := fun i h => by rw [hb_or, hx i h, hy i h]; rfl
theorem lo_andL {m : Nat} {x y : Int32} (hx : lo m x) : lo m (x &&& y) := fun i h => by rw [hb_and, hx i h]; rfl
theorem lo_andR {m : Nat} {x y : Int32} (hy : lo m y) : lo m (x &&& y) := fun i h => by rw [hb_and, hy i h]; cases hb x i <;> rfl
theorem lo_b1 {m k : Nat} (h : k < m) (hk : k < 32) : lo m (b1 k) := fun i hi => by rw [hb_b1 hk]; exact decide_eq_false (by omega)
/-! loops -/
theorem lp_for {S R : Type} {step : (S → Option R) → S → Option R} (st : Nat → S) (N : Nat) {r : Option R} (h1 : ∀ k, k < N → ∀ rec, step rec (st k) = rec (st (k + 1))) (h2 : ∀ rec, step rec (st N) = r) {n : Nat} (hn : N < n) : lp step n (st 0) = r := by
  have key : ∀ j, j ≤ N → ∀ n, j < n → lp step n (st (N - j)) = r := by
    intro j
    induction j with
    | zero =>
      intro _ n hn
      obtain ⟨m, rfl⟩ : ∃ m, n = m + 1 := ⟨n - 1, by omega⟩
      show step (lp step m) (st (N - 0)) = r
      exact h2 _
    | succ j ih =>
      intro hj n hn
      obtain ⟨m, rfl⟩ : ∃ m, n = m + 1 := ⟨n - 1, by omega⟩
      show step (lp step m) (st (N - (j + 1))) = r
      rw [h1 _ (by omega)]
      have e : N - (j + 1) + 1 = N - j := by omega
      rw [e]
      exact ih (by omega) m (by omega)
  have := key N (Nat.le_refl _) n hn
  rwa [Nat.sub_self] at this
theorem lp_tot {S R : Type} {step : (S → Option R) → S → Option R} (I : S → Prop) (m : S → Nat) (Q : R → Prop) (h : ∀ s, I s → (∃ r, (∀ rec, step rec s = some r) ∧ Q r) ∨ ∃ s', (∀ rec, step rec s = rec s') ∧ I s' ∧ m s' < m s) : ∀ n s, I s → m s < n → ∃ r, lp step n s = some r ∧ Q r := by
  intro n
  induction n with
  | zero => intro s _ h; omega
  | succ n ih =>
    intro s hs hm
    rcases h s hs with ⟨r, h1, h2⟩ | ⟨s', h1, h2, h3⟩
    · exact ⟨r, h1 _, h2⟩
    · obtain ⟨r, h4, h5⟩ := ih s' h2 (by omega)
      exact ⟨r, (h1 _).trans h4, h5⟩
/-! folds -/
def orF (f : Nat → Int32) : Nat → Int32
  | 0 => 0
  | k + 1 => orF f k ||| f k
def adF (f : Nat → Int32) : Nat → Int32
  | 0 => 0
  | k + 1 => adF f k + f k
def anyF (f : Nat → Bool) : Nat → Bool
  | 0 => false
  | k + 1 => anyF f k || f k
theorem anyF_iff {f : Nat → Bool} {n : Nat} : anyF f n = true ↔ ∃ k, k < n ∧ f k = true := by
  induction n with
  | zero => simp [anyF]
  | succ n ih =>
    simp only [anyF, Bool.or_eq_true, ih]
    constructor
    · rintro (⟨k, h1, h2⟩ | h)
      · exact ⟨k, by omega, h2⟩
      · exact ⟨n, by omega, h⟩
    · rintro ⟨k, h1, h2⟩
      rcases Nat.lt_or_ge k n with q | q
      · exact Or.inl ⟨k, q, h2⟩
      · have : k = n := by omega
        subst this
        exact Or.inr h2
theorem anyF_cg {f g : Nat → Bool} {n : Nat} (h : ∀ k, k < n → f k = g k) : anyF f n = anyF g n := by
  induction n with
  | zero => rfl
  | succ n ih => simp only [anyF]; rw [ih (fun k hk => h k (by omega)), h n (by omega)]
theorem hb_orF {f : Nat → Int32} {n i : Nat} : hb (orF f n) i = anyF (fun k => hb (f k) i) n := by
  induction n with
  | zero => exact hb_0 i
  | succ n ih => simp only [orF, anyF, hb_or, ih]
theorem lo_orF {m : Nat} {f : Nat → Int32} {n : Nat} (h : ∀ k, k < n → lo m (f k)) : lo m (orF f n) := by
  induction n with
  | zero => exact lo_0 m
  | succ n ih => exact lo_or (ih (fun k hk => h k (by omega))) (h n (by omega))
theorem orF_cg {f g : Nat → Int32} {n : Nat} (h : ∀ k, k < n → f k = g k) : orF f n = orF g n := by
  induction n with
  | zero => rfl
  | succ n ih => simp only [orF]; rw [ih (fun k hk => h k (by omega)), h n (by omega)]
theorem adF_cg {f g : Nat → Int32} {n : Nat} (h : ∀ k, k < n → f k = g k) : adF f n = adF g n := by
  induction n with
  | zero => rfl
  | succ n ih => simp only [adF]; rw [ih (fun k hk => h k (by omega)), h n (by omega)]
/-! memory -/
theorem upm_a {σ : Mm} {k : Nat} {f : Nat → Int32} {j : Nat} : upm σ k f j = if j = k then f else σ j := rfl
theorem upm_u {σ : Mm} {k : Nat} {f g : Nat → Int32} : upm (upm σ k f) k g = upm σ k g := by
  funext j
  unfold upm
  split <;> rfl
theorem upm_id {σ : Mm} {k : Nat} : upm σ k (σ k) = σ := by
  funext j
  unfold upm
  split
  · next h => rw [h]
  · rfl
theorem upm_c {σ : Mm} {k l : Nat} {f g : Nat → Int32} (h : k ≠ l) : upm (upm σ k f) l g = upm (upm σ l g) k f := by
  funext j
  unfold upm
  by_cases h1 : j = l
  · subst h1
    rw [if_pos rfl, if_neg (fun e => h e.symm), if_pos rfl]
  · rw [if_neg h1]
    by_cases h2 : j = k
    · rw [if_pos h2, if_pos h2]
    · rw [if_neg h2, if_neg h2, if_neg h1]
theorem upd_a {f : Nat → Int32} {i j : Nat} {v : Int32} : upd f i v j = if j = i then v else f j := rfl
theorem lg_eq {x y : Int32} : lg_cmp x.toInt64 y.toInt64 = 0 ↔ x = y := by
  have key : x.toInt64 = y.toInt64 ↔ x = y := by
    constructor
    · intro h
      have h1 := congrArg Int64.toInt h
      rw [Int32.toInt_toInt64, Int32.toInt_toInt64] at h1
      exact Int32.toInt_inj.mp h1
    · intro h
      rw [h]
  unfold lg_cmp
  rw [← key]
  generalize x.toInt64 = a, y.toInt64 = c
  by_cases h : a = c
  · subst h
    have h1 : ¬ a > a := Int64.lt_irrefl
    simp [h1]
  · by_cases h1 : a > c <;> simp [h, h1]
