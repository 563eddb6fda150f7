/-! the words of the shallow functions -/
def FU : Nat := 2000
def gd {α : Type} (i : Int32) (n : Nat) (k : Option α) : Option α := if i < 0 ∨ n ≤ i.toNatClampNeg then none else k
theorem gd_some {α : Type} {i : Int32} {n : Nat} {k : Option α} {r : α} (h : gd i n k = some r) : vp_in i n ∧ k = some r := by
  unfold gd at h
  split at h
  · cases h
  · next c => exact ⟨c, h⟩
def gb {α : Type} (v : Int32) (k : Option α) : Option α := if v = 0 ∨ v = 1 then k else none
theorem gb_some {α : Type} {v : Int32} {k : Option α} {r : α} (h : gb v k = some r) : (v = 0 ∨ v = 1) ∧ k = some r := by
  unfold gb at h
  split at h
  · next c => exact ⟨c, h⟩
  · cases h
theorem gb_n {v : Int32} (h : v = 0 ∨ v = 1) : narrow .boolean (.int v) = .int v := by rcases h with rfl | rfl <;> rfl
def gc {α : Type} (v : Int32) (k : Option α) : Option α := if nrc v = v then k else none
theorem gc_some {α : Type} {v : Int32} {k : Option α} {r : α} (h : gc v k = some r) : nrc v = v ∧ k = some r := by
  unfold gc at h
  split at h
  · next c => exact ⟨c, h⟩
  · cases h
theorem gc_n {v : Int32} (h : nrc v = v) : narrow .char (.int v) = .int v := by
  have h1 : narrow .char (.int v) = .int (nrc v) := rfl
  rw [h1, h]
def bd {α β : Type} (x : β) (k : β → Option α) : Option α := k x
theorem bd_some {α β : Type} {x : β} {k : β → Option α} {r : α} (h : bd x k = some r) : ∃ y, y = x ∧ k y = some r := ⟨x, rfl, h⟩
theorem bn_some {α β : Type} {o : Option β} {k : β → Option α} {r : α} (h : o.bind k = some r) : ∃ y, o = some y ∧ k y = some r := by
  cases o with
  | none => cases h
  | some y => exact ⟨y, rfl, h⟩
def un2 {α A B : Type} (k : A → B → Option α) (x : A × B) : Option α := k x.1 x.2
def un3 {α A B C : Type} (k : A → B → C → Option α) (x : A × B × C) : Option α := k x.1 x.2.1 x.2.2
def un4 {α A B C D : Type} (k : A → B → C → D → Option α) (x : A × B × C × D) : Option α := k x.1 x.2.1 x.2.2.1 x.2.2.2
def un5 {α A B C D E : Type} (k : A → B → C → D → E → Option α) (x : A × B × C × D × E) : Option α := k x.1 x.2.1 x.2.2.1 x.2.2.2.1 x.2.2.2.2
theorem un2_some {α A B : Type} {k : A → B → Option α} {a : A} {b : B} {r : α} (h : un2 k (a, b) = some r) : k a b = some r := h
theorem un3_some {α A B C : Type} {k : A → B → C → Option α} {a : A} {b : B} {c : C} {r : α} (h : un3 k (a, b, c) = some r) : k a b c = some r := h
theorem un4_some {α A B C D : Type} {k : A → B → C → D → Option α} {a : A} {b : B} {c : C} {d : D} {r : α} (h : un4 k (a, b, c, d) = some r) : k a b c d = some r := h
def bn2 {α A B : Type} (o : Option (A × B)) (k : A → B → Option α) : Option α := o.bind (un2 k)
def bn3 {α A B C : Type} (o : Option (A × B × C)) (k : A → B → C → Option α) : Option α := o.bind (un3 k)
def bn4 {α A B C D : Type} (o : Option (A × B × C × D)) (k : A → B → C → D → Option α) : Option α := o.bind (un4 k)
def bn5 {α A B C D E : Type} (o : Option (A × B × C × D × E)) (k : A → B → C → D → E → Option α) : Option α := o.bind (un5 k)
theorem bn2_some {α A B : Type} {o : Option (A × B)} {k : A → B → Option α} {r : α} (h : bn2 o k = some r) : ∃ a b, o = some (a, b) ∧ k a b = some r := by
  obtain ⟨⟨a, b⟩, h1, h2⟩ := bn_some h
  exact ⟨a, b, h1, h2⟩
theorem bn3_some {α A B C : Type} {o : Option (A × B × C)} {k : A → B → C → Option α} {r : α} (h : bn3 o k = some r) : ∃ a b c, o = some (a, b, c) ∧ k a b c = some r := by
  obtain ⟨⟨a, b, c⟩, h1, h2⟩ := bn_some h
  exact ⟨a, b, c, h1, h2⟩
theorem bn4_some {α A B C D : Type} {o : Option (A × B × C × D)} {k : A → B → C → D → Option α} {r : α} (h : bn4 o k = some r) : ∃ a b c d, o = some (a, b, c, d) ∧ k a b c d = some r := by
  obtain ⟨⟨a, b, c, d⟩, h1, h2⟩ := bn_some h
  exact ⟨a, b, c, d, h1, h2⟩
theorem bn5_some {α A B C D E : Type} {o : Option (A × B × C × D × E)} {k : A → B → C → D → E → Option α} {r : α} (h : bn5 o k = some r) : ∃ a b c d e, o = some (a, b, c, d, e) ∧ k a b c d e = some r := by
  obtain ⟨⟨a, b, c, d, e⟩, h1, h2⟩ := bn_some h
  exact ⟨a, b, c, d, e, h1, h2⟩
def bns {α A B : Type} (o : Option (A ⊕ B)) (f : A → Option α) (g : B → Option α) : Option α := match o with
  | none => none
  | some (.inl a) => f a
  | some (.inr b) => g b
theorem bns_some {α A B : Type} {o : Option (A ⊕ B)} {f : A → Option α} {g : B → Option α} {r : α} (h : bns o f g = some r) : (∃ a, o = some (.inl a) ∧ f a = some r) ∨ ∃ b, o = some (.inr b) ∧ g b = some r := by
  rcases o with _ | (a | b)
  · cases h
  · exact Or.inl ⟨a, rfl, h⟩
  · exact Or.inr ⟨b, rfl, h⟩
def jn {α β : Type} (k : β) (F : β → Option α) : Option α := F k
theorem jn_use {α β : Type} {k : β} {F : β → Option α} {r : α} {G : Prop} (Pj : β → Prop) (h : jn k F = some r) (hP : Pj k) (hG : ∀ j, Pj j → F j = some r → G) : G := hG k hP h
def lp {S R : Type} (step : (S → Option R) → S → Option R) : Nat → S → Option R
  | 0, _ => none
  | n + 1, s => step (lp step n) s
theorem lp_ind {S R : Type} {step : (S → Option R) → S → Option R} {P : S → R → Prop} (h : ∀ rec : S → Option R, (∀ s r, rec s = some r → P s r) → ∀ s r, step rec s = some r → P s r) : ∀ (n : Nat) (s : S) (r : R), lp step n s = some r → P s r := by
  intro n
  induction n with
  | zero => intro s r q; cases q
  | succ n ih => intro s r q; exact h (lp step n) ih s r q
theorem s_mem {X : sT} {nL : Nat} {cs : Nat × Nat} {σ : Mm} {pc : Nat} {L : List (Option Value)} {st : List Value} (τ : Mm) (e : τ = σ) (k : sW X nL cs τ pc L st) : sW X nL cs σ pc L st := e ▸ k
theorem isB_115 : isB 115 := Or.inr (Or.inr rfl)
theorem s_tswIn {X : sT} {cc : ByteArray} {own : String} {nL fr lo : Nat} {cs : Nat × Nat} {σ : Mm} {pc : Nat} {L : List (Option Value)} {st : List Value} {dflt lw hw : Int} {offs : Array Int} {len : Nat} {x v : Int32} {off : Int} {tgt : Nat} (h : sX X cc own nL fr lo) (d : decode cc pc = .ok (.tableswitch dflt lw hw offs, len)) (hv : x = v) (h1 : ¬ v.toInt < lw) (h2 : ¬ hw < v.toInt) (ho : offs[(v.toInt - lw).toNat]? = some off) (ht : (pc : Int) + off = (tgt : Int)) (kk : sW X nL cs σ tgt L st) : sW X nL cs σ pc L (.int x :: st) := by
  obtain ⟨p, l, e, R, s, m, args, below, meth, c, D, cA, ad, A, Q⟩ := X
  obtain ⟨⟨hx, hb, hml, hown, hts⟩, hfr, hlo, hinv, hxt, hnew, hlk⟩ := h
  intro H locs ls hP hS hl
  subst hv
  exact lv_tableIn hx hb d h1 h2 ho ht (kk H locs ls hP hS hl)
theorem s_tswOut {X : sT} {cc : ByteArray} {own : String} {nL fr lo : Nat} {cs : Nat × Nat} {σ : Mm} {pc : Nat} {L : List (Option Value)} {st : List Value} {dflt lw hw : Int} {offs : Array Int} {len : Nat} {x : Int32} {tgt : Nat} (h : sX X cc own nL fr lo) (d : decode cc pc = .ok (.tableswitch dflt lw hw offs, len)) (hv : x.toInt < lw ∨ hw < x.toInt) (ht : (pc : Int) + dflt = (tgt : Int)) (kk : sW X nL cs σ tgt L st) : sW X nL cs σ pc L (.int x :: st) := by
  obtain ⟨p, l, e, R, s, m, args, below, meth, c, D, cA, ad, A, Q⟩ := X
  obtain ⟨⟨hx, hb, hml, hown, hts⟩, hfr, hlo, hinv, hxt, hnew, hlk⟩ := h
  intro H locs ls hP hS hl
  exact lv_tableOut hx hb d hv ht (kk H locs ls hP hS hl)
theorem i32_ne {x v : Int32} (h : ¬ x = v) : x.toInt ≠ v.toInt := fun e => h (Int32.toInt_inj.mp e)
theorem tsw_out0_3 (x : Int32) (h0 : ¬ x = 0) (h1 : ¬ x = 1) (h2 : ¬ x = 2) (h3 : ¬ x = 3) : x.toInt < 0 ∨ 3 < x.toInt := by
  have q0 : x.toInt ≠ 0 := i32_ne h0
  have q1 : x.toInt ≠ 1 := i32_ne h1
  have q2 : x.toInt ≠ 2 := i32_ne h2
  have q3 : x.toInt ≠ 3 := i32_ne h3
  omega
theorem tsw_out0_5 (x : Int32) (h0 : ¬ x = 0) (h1 : ¬ x = 1) (h2 : ¬ x = 2) (h3 : ¬ x = 3) (h4 : ¬ x = 4) (h5 : ¬ x = 5) : x.toInt < 0 ∨ 5 < x.toInt := by
  have q0 : x.toInt ≠ 0 := i32_ne h0
  have q1 : x.toInt ≠ 1 := i32_ne h1
  have q2 : x.toInt ≠ 2 := i32_ne h2
  have q3 : x.toInt ≠ 3 := i32_ne h3
  have q4 : x.toInt ≠ 4 := i32_ne h4
  have q5 : x.toInt ≠ 5 := i32_ne h5
  omega
theorem tsw_out0_2 (x : Int32) (h0 : ¬ x = 0) (h1 : ¬ x = 1) (h2 : ¬ x = 2) : x.toInt < 0 ∨ 2 < x.toInt := by
  have q0 : x.toInt ≠ 0 := i32_ne h0
  have q1 : x.toInt ≠ 1 := i32_ne h1
  have q2 : x.toInt ≠ 2 := i32_ne h2
  omega
theorem s_lsw {X : sT} {cc : ByteArray} {own : String} {nL fr lo : Nat} {cs : Nat × Nat} {σ : Mm} {pc : Nat} {L : List (Option Value)} {st : List Value} {dflt : Int} {ps : Array (Int × Int)} {len : Nat} {x : Int32} {off : Int} {tgt : Nat} (h : sX X cc own nL fr lo) (d : decode cc pc = .ok (.lookupswitch dflt ps, len)) (hp : (ps.toList.zip (ps.toList.drop 1)).all (fun (a, next) => a.1 < next.1) = true) (ho : Op.lookupswitch.offset ps.toList dflt x.toInt = off) (ht : (pc : Int) + off = (tgt : Int)) (kk : sW X nL cs σ tgt L st) : sW X nL cs σ pc L (.int x :: st) := by
  obtain ⟨p, l, e, R, s, m, args, below, meth, c, D, cA, ad, A, Q⟩ := X
  obtain ⟨⟨hx, hb, hml, hown, hts⟩, hfr, hlo, hinv, hxt, hnew, hlk⟩ := h
  intro H locs ls hP hS hl
  exact lv_lookup hx hb d hp ho ht (kk H locs ls hP hS hl)
theorem s_ldcw {X : sT} {cc : ByteArray} {own : String} {nL fr lo : Nat} {cs : Nat × Nat} {σ : Mm} {pc : Nat} {L : List (Option Value)} {st : List Value} {index : Nat} {v : Int32} (h : sX X cc own nL fr lo) (hw : Cond.constant own index v ∈ GW) (d : decode cc pc = .ok (.ldc_w index, 3)) (kk : sW X nL cs σ (pc + 3) L (.int v :: st)) : sW X nL cs σ pc L st := by
  obtain ⟨p, l, e, R, s, m, args, below, meth, c, D, cA, ad, A, Q⟩ := X
  obtain ⟨⟨hx, hb, hml, hown, hts⟩, hfr, hlo, hinv, hxt, hnew, hlk⟩ := h
  intro H locs ls hP hS hl
  exact lv_ldcw hx hb hown (hts _ hw) d (kk H locs ls hP hS hl)
theorem nz0 : narrow .boolean (.int 0) = .int 0 := rfl
theorem nz1 : narrow .boolean (.int 1) = .int 1 := rfl
theorem nc0 : narrow .char (.int 0) = .int 0 := rfl
theorem nzi (x : Int32) : narrow .int (.int x) = .int x := rfl
theorem rt1 {α : Type} {a b : α} (h : some a = some b) : b = a := (Option.some.inj h).symm
theorem rt2 {α β : Type} {a a' : α} {b b' : β} (h : some (a, b) = some (a', b')) : a' = a ∧ b' = b := by
  have h1 := Option.some.inj h
  exact ⟨(congrArg Prod.fst h1).symm, (congrArg Prod.snd h1).symm⟩
