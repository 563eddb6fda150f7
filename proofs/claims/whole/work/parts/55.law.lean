/-! the law's loop -/
def sScr (X : sT) (b Ln : Nat) (xs : Nat → Int32) : Prop := match X with
  | (_, _, _, _, s, _, _, _, _, _, _, _, _, A, _) => va_X b Ln xs s s.heap ∧ b < s.heap.size ∧ ¬ A b
theorem s_sld {X : sT} {cc : ByteArray} {own : String} {nL fr lo : Nat} {cs : Nat × Nat} {σ : Mm} {pc : Nat} {L : List (Option Value)} {st : List Value} {b Ln : Nat} {xs : Nat → Int32} {i : Int32} (h : sX X cc own nL fr lo) (hsc : sScr X b Ln xs) (hi : vp_in i Ln) (d : decode cc pc = .ok (.iaload, 1)) (kk : sW X nL cs σ (pc + 1) L (.int (xs i.toNatClampNeg) :: st)) : sW X nL cs σ pc L (.int i :: .ref b :: st) := by
  obtain ⟨p, l, e, R, s, m, args, below, meth, c, D, cA, ad, A, Q⟩ := X
  obtain ⟨⟨hx, hb, hml, hown, hts⟩, hfr, hlo, ⟨hK, hij, hAd, hst⟩, hxt, hnew, hlk⟩ := h
  intro H locs ls hP hS hl
  exact va_sld hx hb hsc.1 hsc.2.1 hsc.2.2 hS hi d (kk H locs ls hP hS hl)
theorem s_slen {X : sT} {cc : ByteArray} {own : String} {nL fr lo : Nat} {cs : Nat × Nat} {σ : Mm} {pc : Nat} {L : List (Option Value)} {st : List Value} {b Ln : Nat} {xs : Nat → Int32} (h : sX X cc own nL fr lo) (hsc : sScr X b Ln xs) (d : decode cc pc = .ok (.arraylength, 1)) (kk : sW X nL cs σ (pc + 1) L (.int (Int32.ofNat Ln) :: st)) : sW X nL cs σ pc L (.ref b :: st) := by
  obtain ⟨p, l, e, R, s, m, args, below, meth, c, D, cA, ad, A, Q⟩ := X
  obtain ⟨⟨hx, hb, hml, hown, hts⟩, hfr, hlo, ⟨hK, hij, hAd, hst⟩, hxt, hnew, hlk⟩ := h
  intro H locs ls hP hS hl
  exact va_slen hx hb hsc.1 hsc.2.1 hsc.2.2 hS d (kk H locs ls hP hS hl)
def bnd (n : Nat) (cs : Nat × Nat) : Prop := cs.1 + n ≤ 603072 ∧ cs.2 + 6 * n ≤ 7186538
theorem bnd_end {n : Nat} {cs : Nat × Nat} (h : bnd n cs) : cs.1 ≤ 603072 ∧ cs.2 ≤ 7186538 := ⟨by have := h.1; omega, by have := h.2; omega⟩
theorem bnd_less {n : Nat} {cs : Nat × Nat} (h : bnd (n + 1) cs) : bnd n cs := ⟨by have := h.1; omega, by have := h.2; omega⟩
theorem bnd_step {n : Nat} {cs : Nat × Nat} (h : bnd (n + 1) cs) : bnd n (cs.1 + 1, cs.2 + 6) := ⟨by have := h.1; simp only; omega, by have := h.2; simp only; omega⟩
theorem bnd_cs {n : Nat} {cs : Nat × Nat} {R : Room} (hR : 603072 ≤ R.cells ∧ 7186538 ≤ R.slots) (h : bnd n cs) : cs.1 ≤ R.cells ∧ cs.2 ≤ R.slots := ⟨by have := h.1; omega, by have := h.2; omega⟩
theorem bnd_ct {n : Nat} {cs : Nat × Nat} {R : Room} (hR : 603072 ≤ R.cells ∧ 7186538 ≤ R.slots) (h : bnd (n + 1) cs) : cs.1 + 1 ≤ R.cells ∧ cs.2 + 6 ≤ R.slots := ⟨by have := h.1; omega, by have := h.2; omega⟩
theorem lp_indN {S R : Type} {step : (S → Option R) → S → Option R} {P : Nat → S → R → Prop} (h : ∀ (n : Nat) (rec : S → Option R), (∀ s r, rec s = some r → P n s r) → ∀ s r, step rec s = some r → P (n + 1) s r) : ∀ (n : Nat) (s : S) (r : R), lp step n s = some r → P n s r := by
  intro n
  induction n with
  | zero => intro s r q; cases q
  | succ n ih => intro s r q; exact h n (lp step n) ih s r q
theorem tsw_out0_27 (x : Int32) (h0 : ¬ x = 0) (h1 : ¬ x = 1) (h2 : ¬ x = 2) (h3 : ¬ x = 3) (h4 : ¬ x = 4) (h5 : ¬ x = 5) (h6 : ¬ x = 6) (h7 : ¬ x = 7) (h8 : ¬ x = 8) (h9 : ¬ x = 9) (h10 : ¬ x = 10) (h11 : ¬ x = 11) (h12 : ¬ x = 12) (h13 : ¬ x = 13) (h14 : ¬ x = 14) (h15 : ¬ x = 15) (h16 : ¬ x = 16) (h17 : ¬ x = 17) (h18 : ¬ x = 18) (h19 : ¬ x = 19) (h20 : ¬ x = 20) (h21 : ¬ x = 21) (h22 : ¬ x = 22) (h23 : ¬ x = 23) (h24 : ¬ x = 24) (h25 : ¬ x = 25) (h26 : ¬ x = 26) (h27 : ¬ x = 27) : x.toInt < 0 ∨ 27 < x.toInt := by
  have q0 : x.toInt ≠ 0 := i32_ne h0
  have q1 : x.toInt ≠ 1 := i32_ne h1
  have q2 : x.toInt ≠ 2 := i32_ne h2
  have q3 : x.toInt ≠ 3 := i32_ne h3
  have q4 : x.toInt ≠ 4 := i32_ne h4
  have q5 : x.toInt ≠ 5 := i32_ne h5
  have q6 : x.toInt ≠ 6 := i32_ne h6
  have q7 : x.toInt ≠ 7 := i32_ne h7
  have q8 : x.toInt ≠ 8 := i32_ne h8
  have q9 : x.toInt ≠ 9 := i32_ne h9
  have q10 : x.toInt ≠ 10 := i32_ne h10
  have q11 : x.toInt ≠ 11 := i32_ne h11
  have q12 : x.toInt ≠ 12 := i32_ne h12
  have q13 : x.toInt ≠ 13 := i32_ne h13
  have q14 : x.toInt ≠ 14 := i32_ne h14
  have q15 : x.toInt ≠ 15 := i32_ne h15
  have q16 : x.toInt ≠ 16 := i32_ne h16
  have q17 : x.toInt ≠ 17 := i32_ne h17
  have q18 : x.toInt ≠ 18 := i32_ne h18
  have q19 : x.toInt ≠ 19 := i32_ne h19
  have q20 : x.toInt ≠ 20 := i32_ne h20
  have q21 : x.toInt ≠ 21 := i32_ne h21
  have q22 : x.toInt ≠ 22 := i32_ne h22
  have q23 : x.toInt ≠ 23 := i32_ne h23
  have q24 : x.toInt ≠ 24 := i32_ne h24
  have q25 : x.toInt ≠ 25 := i32_ne h25
  have q26 : x.toInt ≠ 26 := i32_ne h26
  have q27 : x.toInt ≠ 27 := i32_ne h27
  omega
def u_law0 (xs : Nat → Int32) (Ln : Nat) (rec : Mm × Int32 → Option Int32) (σ : Mm) (x4 : Int32) : Option Int32 :=
  gd (x4 + 1) Ln <|
  bn2 (fL_clear σ (xs (x4 + 1).toNatClampNeg)) fun r2 σ3 =>
  gd (x4 + 1) Ln <|
  bn2 (fX10_clear σ3 (xs (x4 + 1).toNatClampNeg)) fun r5 σ6 =>
  (fX10_thrown σ6).bind fun r7 =>
  if r7 = r2 then
  if r2 = 0 then
  if (lg_cmp (σ6 170 (Int32.toNatClampNeg 0)).toInt64 r5.toInt64) = 0 then
  bd (x4 + 6) fun v9 =>
  rec (σ6, v9)
else
  some 0
else
  bd (x4 + 6) fun v8 =>
  rec (σ6, v8)
else
  some 0
def u_law1 (xs : Nat → Int32) (Ln : Nat) (rec : Mm × Int32 → Option Int32) (σ : Mm) (x4 : Int32) : Option Int32 :=
  gd (x4 + 1) Ln <|
  gd (x4 + 2) Ln <|
  gd (x4 + 3) Ln <|
  gd (x4 + 4) Ln <|
  gd (x4 + 5) Ln <|
  bn2 (fL_append σ (xs (x4 + 1).toNatClampNeg) (xs (x4 + 2).toNatClampNeg) (xs (x4 + 3).toNatClampNeg) (xs (x4 + 4).toNatClampNeg) (xs (x4 + 5).toNatClampNeg)) fun r6 σ7 =>
  gd (x4 + 1) Ln <|
  gd (x4 + 2) Ln <|
  gd (x4 + 3) Ln <|
  gd (x4 + 4) Ln <|
  gd (x4 + 5) Ln <|
  bn2 (fX10_append σ7 (xs (x4 + 1).toNatClampNeg) (xs (x4 + 2).toNatClampNeg) (xs (x4 + 3).toNatClampNeg) (xs (x4 + 4).toNatClampNeg) (xs (x4 + 5).toNatClampNeg)) fun r13 σ14 =>
  (fX10_thrown σ14).bind fun r15 =>
  if r15 = r6 then
  if r6 = 0 then
  if (lg_cmp (σ14 170 (Int32.toNatClampNeg 0)).toInt64 r13.toInt64) = 0 then
  bd (x4 + 6) fun v17 =>
  rec (σ14, v17)
else
  some 0
else
  bd (x4 + 6) fun v16 =>
  rec (σ14, v16)
else
  some 0
def u_law2 (xs : Nat → Int32) (Ln : Nat) (rec : Mm × Int32 → Option Int32) (σ : Mm) (x4 : Int32) : Option Int32 :=
  gd (x4 + 1) Ln <|
  bn2 (fL_removeLast σ (xs (x4 + 1).toNatClampNeg)) fun r2 σ3 =>
  gd (x4 + 1) Ln <|
  bn2 (fX10_removeLast σ3 (xs (x4 + 1).toNatClampNeg)) fun r5 σ6 =>
  (fX10_thrown σ6).bind fun r7 =>
  if r7 = r2 then
  if r2 = 0 then
  if (lg_cmp (σ6 170 (Int32.toNatClampNeg 0)).toInt64 r5.toInt64) = 0 then
  bd (x4 + 6) fun v9 =>
  rec (σ6, v9)
else
  some 0
else
  bd (x4 + 6) fun v8 =>
  rec (σ6, v8)
else
  some 0
def u_law3 (xs : Nat → Int32) (Ln : Nat) (rec : Mm × Int32 → Option Int32) (σ : Mm) (x4 : Int32) : Option Int32 :=
  gd (x4 + 1) Ln <|
  gd (x4 + 2) Ln <|
  gd (x4 + 3) Ln <|
  gd (x4 + 4) Ln <|
  gd (x4 + 5) Ln <|
  bn2 (fL_setEnd σ (xs (x4 + 1).toNatClampNeg) (xs (x4 + 2).toNatClampNeg) (xs (x4 + 3).toNatClampNeg) (xs (x4 + 4).toNatClampNeg) (xs (x4 + 5).toNatClampNeg)) fun r6 σ7 =>
  gd (x4 + 1) Ln <|
  gd (x4 + 2) Ln <|
  gd (x4 + 3) Ln <|
  gd (x4 + 4) Ln <|
  gd (x4 + 5) Ln <|
  bn2 (fX10_setEnd σ7 (xs (x4 + 1).toNatClampNeg) (xs (x4 + 2).toNatClampNeg) (xs (x4 + 3).toNatClampNeg) (xs (x4 + 4).toNatClampNeg) (xs (x4 + 5).toNatClampNeg)) fun r13 σ14 =>
  (fX10_thrown σ14).bind fun r15 =>
  if r15 = r6 then
  if r6 = 0 then
  if (lg_cmp (σ14 170 (Int32.toNatClampNeg 0)).toInt64 r13.toInt64) = 0 then
  bd (x4 + 6) fun v17 =>
  rec (σ14, v17)
else
  some 0
else
  bd (x4 + 6) fun v16 =>
  rec (σ14, v16)
else
  some 0
def u_law4 (xs : Nat → Int32) (Ln : Nat) (rec : Mm × Int32 → Option Int32) (σ : Mm) (x4 : Int32) : Option Int32 :=
  gd (x4 + 1) Ln <|
  gd (x4 + 2) Ln <|
  bn2 (fL_setFrequency σ (xs (x4 + 1).toNatClampNeg) (xs (x4 + 2).toNatClampNeg)) fun r3 σ4 =>
  gd (x4 + 1) Ln <|
  gd (x4 + 2) Ln <|
  bn2 (fX10_setFrequency σ4 (xs (x4 + 1).toNatClampNeg) (xs (x4 + 2).toNatClampNeg)) fun r7 σ8 =>
  (fX10_thrown σ8).bind fun r9 =>
  if r9 = r3 then
  if r3 = 0 then
  if (lg_cmp (σ8 170 (Int32.toNatClampNeg 0)).toInt64 r7.toInt64) = 0 then
  bd (x4 + 6) fun v11 =>
  rec (σ8, v11)
else
  some 0
else
  bd (x4 + 6) fun v10 =>
  rec (σ8, v10)
else
  some 0
def u_law5 (xs : Nat → Int32) (Ln : Nat) (rec : Mm × Int32 → Option Int32) (σ : Mm) (x4 : Int32) : Option Int32 :=
  gd (x4 + 1) Ln <|
  gd (x4 + 2) Ln <|
  bn2 (fL_setInitial σ (xs (x4 + 1).toNatClampNeg) (xs (x4 + 2).toNatClampNeg)) fun r3 σ4 =>
  gd (x4 + 1) Ln <|
  gd (x4 + 2) Ln <|
  bn2 (fX10_setInitial σ4 (xs (x4 + 1).toNatClampNeg) (xs (x4 + 2).toNatClampNeg)) fun r7 σ8 =>
  (fX10_thrown σ8).bind fun r9 =>
  if r9 = r3 then
  if r3 = 0 then
  if (lg_cmp (σ8 170 (Int32.toNatClampNeg 0)).toInt64 r7.toInt64) = 0 then
  bd (x4 + 6) fun v11 =>
  rec (σ8, v11)
else
  some 0
else
  bd (x4 + 6) fun v10 =>
  rec (σ8, v10)
else
  some 0
def u_law6 (xs : Nat → Int32) (Ln : Nat) (rec : Mm × Int32 → Option Int32) (σ : Mm) (x4 : Int32) : Option Int32 :=
  gd (x4 + 1) Ln <|
  gd (x4 + 2) Ln <|
  gd (x4 + 3) Ln <|
  bn2 (fL_instruction σ (xs (x4 + 1).toNatClampNeg) (xs (x4 + 2).toNatClampNeg) (xs (x4 + 3).toNatClampNeg)) fun r4 σ5 =>
  gd (x4 + 1) Ln <|
  gd (x4 + 2) Ln <|
  gd (x4 + 3) Ln <|
  bn2 (fX10_instruction σ5 (xs (x4 + 1).toNatClampNeg) (xs (x4 + 2).toNatClampNeg) (xs (x4 + 3).toNatClampNeg)) fun r9 σ10 =>
  (fX10_thrown σ10).bind fun r11 =>
  if r11 = r4 then
  if r4 = 0 then
  if (lg_cmp (σ10 170 (Int32.toNatClampNeg 0)).toInt64 r9.toInt64) = 0 then
  bd (x4 + 6) fun v13 =>
  rec (σ10, v13)
else
  some 0
else
  bd (x4 + 6) fun v12 =>
  rec (σ10, v12)
else
  some 0
def u_law7 (xs : Nat → Int32) (Ln : Nat) (rec : Mm × Int32 → Option Int32) (σ : Mm) (x4 : Int32) : Option Int32 :=
  gd (x4 + 1) Ln <|
  gd (x4 + 2) Ln <|
  bn2 (fL_block σ (xs (x4 + 1).toNatClampNeg) (xs (x4 + 2).toNatClampNeg)) fun r3 σ4 =>
  gd (x4 + 1) Ln <|
  gd (x4 + 2) Ln <|
  bn2 (fX10_block σ4 (xs (x4 + 1).toNatClampNeg) (xs (x4 + 2).toNatClampNeg)) fun r7 σ8 =>
  (fX10_thrown σ8).bind fun r9 =>
  if r9 = r3 then
  if r3 = 0 then
  if (lg_cmp (σ8 170 (Int32.toNatClampNeg 0)).toInt64 r7.toInt64) = 0 then
  bd (x4 + 6) fun v11 =>
  rec (σ8, v11)
else
  some 0
else
  bd (x4 + 6) fun v10 =>
  rec (σ8, v10)
else
  some 0
def u_law8 (xs : Nat → Int32) (Ln : Nat) (rec : Mm × Int32 → Option Int32) (σ : Mm) (x4 : Int32) : Option Int32 :=
  gd (x4 + 1) Ln <|
  gd (x4 + 2) Ln <|
  bn2 (fL_live σ (xs (x4 + 1).toNatClampNeg) (xs (x4 + 2).toNatClampNeg)) fun r3 σ4 =>
  gd (x4 + 1) Ln <|
  gd (x4 + 2) Ln <|
  bn2 (fX10_live σ4 (xs (x4 + 1).toNatClampNeg) (xs (x4 + 2).toNatClampNeg)) fun r7 σ8 =>
  (fX10_thrown σ8).bind fun r9 =>
  if r9 = r3 then
  if r3 = 0 then
  if (lg_cmp (σ8 170 (Int32.toNatClampNeg 0)).toInt64 r7.toInt64) = 0 then
  bd (x4 + 6) fun v11 =>
  rec (σ8, v11)
else
  some 0
else
  bd (x4 + 6) fun v10 =>
  rec (σ8, v10)
else
  some 0
def u_law9 (xs : Nat → Int32) (Ln : Nat) (rec : Mm × Int32 → Option Int32) (σ : Mm) (x4 : Int32) : Option Int32 :=
  gd (x4 + 1) Ln <|
  bn2 (fL_conflicts σ (xs (x4 + 1).toNatClampNeg)) fun r2 σ3 =>
  gd (x4 + 1) Ln <|
  bn2 (fX10_conflicts σ3 (xs (x4 + 1).toNatClampNeg)) fun r5 σ6 =>
  (fX10_thrown σ6).bind fun r7 =>
  if r7 = r2 then
  if r2 = 0 then
  if (lg_cmp (σ6 170 (Int32.toNatClampNeg 0)).toInt64 r5.toInt64) = 0 then
  bd (x4 + 6) fun v9 =>
  rec (σ6, v9)
else
  some 0
else
  bd (x4 + 6) fun v8 =>
  rec (σ6, v8)
else
  some 0
def u_law10 (xs : Nat → Int32) (Ln : Nat) (rec : Mm × Int32 → Option Int32) (σ : Mm) (x4 : Int32) : Option Int32 :=
  bn2 (fX9_pressure σ) fun r1 σ2 =>
  bn2 (fX10_pressure σ2) fun r3 σ4 =>
  if r1 = r3 then
  bd (x4 + 6) fun v5 =>
  rec (σ4, v5)
else
  some 0
def u_law11 (xs : Nat → Int32) (Ln : Nat) (rec : Mm × Int32 → Option Int32) (σ : Mm) (x4 : Int32) : Option Int32 :=
  bn2 (fX9_loops σ) fun r1 σ2 =>
  bn2 (fX10_loops σ2) fun r3 σ4 =>
  if r1 = r3 then
  bd (x4 + 6) fun v5 =>
  rec (σ4, v5)
else
  some 0
def u_law12 (xs : Nat → Int32) (Ln : Nat) (rec : Mm × Int32 → Option Int32) (σ : Mm) (x4 : Int32) : Option Int32 :=
  gd (x4 + 1) Ln <|
  gd (x4 + 2) Ln <|
  bn2 (fL_loop σ (xs (x4 + 1).toNatClampNeg) (xs (x4 + 2).toNatClampNeg)) fun r3 σ4 =>
  gd (x4 + 1) Ln <|
  gd (x4 + 2) Ln <|
  bn2 (fX10_loop σ4 (xs (x4 + 1).toNatClampNeg) (xs (x4 + 2).toNatClampNeg)) fun r7 σ8 =>
  (fX10_thrown σ8).bind fun r9 =>
  if r9 = r3 then
  if r3 = 0 then
  if (lg_cmp (σ8 170 (Int32.toNatClampNeg 0)).toInt64 r7.toInt64) = 0 then
  bd (x4 + 6) fun v11 =>
  rec (σ8, v11)
else
  some 0
else
  bd (x4 + 6) fun v10 =>
  rec (σ8, v10)
else
  some 0
def u_law13 (xs : Nat → Int32) (Ln : Nat) (rec : Mm × Int32 → Option Int32) (σ : Mm) (x4 : Int32) : Option Int32 :=
  gd (x4 + 1) Ln <|
  gd (x4 + 2) Ln <|
  jn (fun (v3 : Int32) => bn2 (fL_cost σ (xs (x4 + 1).toNatClampNeg) v3) fun r5 σ6 =>
  gd (x4 + 1) Ln <|
  gd (x4 + 2) Ln <|
  jn (fun (v9 : Int32) => bn2 (fX10_cost σ6 (xs (x4 + 1).toNatClampNeg) v9) fun r11 σ12 =>
  (fX10_thrown σ12).bind fun r13 =>
  if r13 = r5 then
  if r5 = 0 then
  if (lg_cmp (σ12 170 (Int32.toNatClampNeg 0)).toInt64 r11.toInt64) = 0 then
  bd (x4 + 6) fun v15 =>
  rec (σ12, v15)
else
  some 0
else
  bd (x4 + 6) fun v14 =>
  rec (σ12, v14)
else
  some 0) fun j10 =>
  if (xs (x4 + 2).toNatClampNeg) = 0 then
  j10 0
else
  j10 1) fun j4 =>
  if (xs (x4 + 2).toNatClampNeg) = 0 then
  j4 0
else
  j4 1
def u_law14 (xs : Nat → Int32) (Ln : Nat) (rec : Mm × Int32 → Option Int32) (σ : Mm) (x4 : Int32) : Option Int32 :=
  gd (x4 + 1) Ln <|
  gd (x4 + 2) Ln <|
  jn (fun (v3 : Int32) => bn2 (fL_plan σ (xs (x4 + 1).toNatClampNeg) v3) fun r5 σ6 =>
  gd (x4 + 1) Ln <|
  gd (x4 + 2) Ln <|
  jn (fun (v9 : Int32) => bn2 (fX10_plan σ6 (xs (x4 + 1).toNatClampNeg) v9) fun r11 σ12 =>
  (fX10_thrown σ12).bind fun r13 =>
  if r13 = r5 then
  if r5 = 0 then
  if (lg_cmp (σ12 170 (Int32.toNatClampNeg 0)).toInt64 r11.toInt64) = 0 then
  bd (x4 + 6) fun v15 =>
  rec (σ12, v15)
else
  some 0
else
  bd (x4 + 6) fun v14 =>
  rec (σ12, v14)
else
  some 0) fun j10 =>
  if (xs (x4 + 2).toNatClampNeg) = 0 then
  j10 0
else
  j10 1) fun j4 =>
  if (xs (x4 + 2).toNatClampNeg) = 0 then
  j4 0
else
  j4 1
def u_law15 (xs : Nat → Int32) (Ln : Nat) (rec : Mm × Int32 → Option Int32) (σ : Mm) (x4 : Int32) : Option Int32 :=
  gd (x4 + 1) Ln <|
  gd (x4 + 2) Ln <|
  bn2 (fL_home σ (xs (x4 + 1).toNatClampNeg) (xs (x4 + 2).toNatClampNeg)) fun r3 σ4 =>
  gd (x4 + 1) Ln <|
  gd (x4 + 2) Ln <|
  bn2 (fX10_home σ4 (xs (x4 + 1).toNatClampNeg) (xs (x4 + 2).toNatClampNeg)) fun r7 σ8 =>
  (fX10_thrown σ8).bind fun r9 =>
  if r9 = r3 then
  if r3 = 0 then
  if (lg_cmp (σ8 170 (Int32.toNatClampNeg 0)).toInt64 r7.toInt64) = 0 then
  bd (x4 + 6) fun v11 =>
  rec (σ8, v11)
else
  some 0
else
  bd (x4 + 6) fun v10 =>
  rec (σ8, v10)
else
  some 0
def u_law16 (xs : Nat → Int32) (Ln : Nat) (rec : Mm × Int32 → Option Int32) (σ : Mm) (x4 : Int32) : Option Int32 :=
  gd (x4 + 1) Ln <|
  gd (x4 + 2) Ln <|
  bn2 (fL_promoted σ (xs (x4 + 1).toNatClampNeg) (xs (x4 + 2).toNatClampNeg)) fun r3 σ4 =>
  gd (x4 + 1) Ln <|
  gd (x4 + 2) Ln <|
  bn2 (fX10_promoted σ4 (xs (x4 + 1).toNatClampNeg) (xs (x4 + 2).toNatClampNeg)) fun r7 σ8 =>
  (fX10_thrown σ8).bind fun r9 =>
  if r9 = r3 then
  if r3 = 0 then
  if (lg_cmp (σ8 170 (Int32.toNatClampNeg 0)).toInt64 r7.toInt64) = 0 then
  bd (x4 + 6) fun v11 =>
  rec (σ8, v11)
else
  some 0
else
  bd (x4 + 6) fun v10 =>
  rec (σ8, v10)
else
  some 0
def u_law17 (xs : Nat → Int32) (Ln : Nat) (rec : Mm × Int32 → Option Int32) (σ : Mm) (x4 : Int32) : Option Int32 :=
  gd (x4 + 1) Ln <|
  bn2 (fL_planned σ (xs (x4 + 1).toNatClampNeg)) fun r2 σ3 =>
  gd (x4 + 1) Ln <|
  bn2 (fX10_planned σ3 (xs (x4 + 1).toNatClampNeg)) fun r5 σ6 =>
  (fX10_thrown σ6).bind fun r7 =>
  if r7 = r2 then
  if r2 = 0 then
  if (lg_cmp (σ6 170 (Int32.toNatClampNeg 0)).toInt64 r5.toInt64) = 0 then
  bd (x4 + 6) fun v9 =>
  rec (σ6, v9)
else
  some 0
else
  bd (x4 + 6) fun v8 =>
  rec (σ6, v8)
else
  some 0
def u_law18 (xs : Nat → Int32) (Ln : Nat) (rec : Mm × Int32 → Option Int32) (σ : Mm) (x4 : Int32) : Option Int32 :=
  bn2 (fX9_enough σ) fun r1 σ2 =>
  bn2 (fX10_enough σ2) fun r3 σ4 =>
  if r1 = r3 then
  bd (x4 + 6) fun v5 =>
  rec (σ4, v5)
else
  some 0
def u_law19 (xs : Nat → Int32) (Ln : Nat) (rec : Mm × Int32 → Option Int32) (σ : Mm) (x4 : Int32) : Option Int32 :=
  gd (x4 + 1) Ln <|
  bn2 (fL_run σ (xs (x4 + 1).toNatClampNeg)) fun r2 σ3 =>
  gd (x4 + 1) Ln <|
  bn2 (fX10_run σ3 (xs (x4 + 1).toNatClampNeg)) fun r5 σ6 =>
  (fX10_thrown σ6).bind fun r7 =>
  if r7 = r2 then
  if r2 = 0 then
  if (lg_cmp (σ6 170 (Int32.toNatClampNeg 0)).toInt64 r5.toInt64) = 0 then
  bd (x4 + 6) fun v9 =>
  rec (σ6, v9)
else
  some 0
else
  bd (x4 + 6) fun v8 =>
  rec (σ6, v8)
else
  some 0
def u_law20 (xs : Nat → Int32) (Ln : Nat) (rec : Mm × Int32 → Option Int32) (σ : Mm) (x4 : Int32) : Option Int32 :=
  gd (x4 + 1) Ln <|
  bn2 (fL_runPlanned σ (xs (x4 + 1).toNatClampNeg)) fun r2 σ3 =>
  gd (x4 + 1) Ln <|
  bn2 (fX10_runPlanned σ3 (xs (x4 + 1).toNatClampNeg)) fun r5 σ6 =>
  (fX10_thrown σ6).bind fun r7 =>
  if r7 = r2 then
  if r2 = 0 then
  if (lg_cmp (σ6 170 (Int32.toNatClampNeg 0)).toInt64 r5.toInt64) = 0 then
  bd (x4 + 6) fun v9 =>
  rec (σ6, v9)
else
  some 0
else
  bd (x4 + 6) fun v8 =>
  rec (σ6, v8)
else
  some 0
def u_law21 (xs : Nat → Int32) (Ln : Nat) (rec : Mm × Int32 → Option Int32) (σ : Mm) (x4 : Int32) : Option Int32 :=
  gd (x4 + 1) Ln <|
  bn2 (fL_executed σ (xs (x4 + 1).toNatClampNeg)) fun r2 σ3 =>
  gd (x4 + 1) Ln <|
  bn2 (fX10_executed σ3 (xs (x4 + 1).toNatClampNeg)) fun r5 σ6 =>
  (fX10_thrown σ6).bind fun r7 =>
  if r7 = r2 then
  if r2 = 0 then
  if (lg_cmp (σ6 170 (Int32.toNatClampNeg 0)).toInt64 r5.toInt64) = 0 then
  bd (x4 + 6) fun v9 =>
  rec (σ6, v9)
else
  some 0
else
  bd (x4 + 6) fun v8 =>
  rec (σ6, v8)
else
  some 0
def u_law22 (xs : Nat → Int32) (Ln : Nat) (rec : Mm × Int32 → Option Int32) (σ : Mm) (x4 : Int32) : Option Int32 :=
  gd (x4 + 1) Ln <|
  bn2 (fL_visits σ (xs (x4 + 1).toNatClampNeg)) fun r2 σ3 =>
  gd (x4 + 1) Ln <|
  bn2 (fX10_visits σ3 (xs (x4 + 1).toNatClampNeg)) fun r5 σ6 =>
  (fX10_thrown σ6).bind fun r7 =>
  if r7 = r2 then
  if r2 = 0 then
  if (lg_cmp (σ6 170 (Int32.toNatClampNeg 0)).toInt64 r5.toInt64) = 0 then
  bd (x4 + 6) fun v9 =>
  rec (σ6, v9)
else
  some 0
else
  bd (x4 + 6) fun v8 =>
  rec (σ6, v8)
else
  some 0
def u_law23 (xs : Nat → Int32) (Ln : Nat) (rec : Mm × Int32 → Option Int32) (σ : Mm) (x4 : Int32) : Option Int32 :=
  bn2 (fX9_profile σ) fun r1 σ2 =>
  bn2 (fX10_profile σ2) fun r3 σ4 =>
  if r1 = r3 then
  bd (x4 + 6) fun v5 =>
  rec (σ4, v5)
else
  some 0
def u_law24 (xs : Nat → Int32) (Ln : Nat) (rec : Mm × Int32 → Option Int32) (σ : Mm) (x4 : Int32) : Option Int32 :=
  gd (x4 + 1) Ln <|
  bn2 (fL_feed σ (i2c (xs (x4 + 1).toNatClampNeg))) fun r2 σ3 =>
  gd (x4 + 1) Ln <|
  bn2 (fX10_feed σ3 (i2c (xs (x4 + 1).toNatClampNeg))) fun r5 σ6 =>
  (fX10_thrown σ6).bind fun r7 =>
  if r7 = r2 then
  if r2 = 0 then
  if (lg_cmp (σ6 170 (Int32.toNatClampNeg 0)).toInt64 r5.toInt64) = 0 then
  bd (x4 + 6) fun v9 =>
  rec (σ6, v9)
else
  some 0
else
  bd (x4 + 6) fun v8 =>
  rec (σ6, v8)
else
  some 0
def u_law25 (xs : Nat → Int32) (Ln : Nat) (rec : Mm × Int32 → Option Int32) (σ : Mm) (x4 : Int32) : Option Int32 :=
  gd (x4 + 1) Ln <|
  bn2 (fL_read σ (xs (x4 + 1).toNatClampNeg)) fun r2 σ3 =>
  gd (x4 + 1) Ln <|
  bn2 (fX10_read σ3 (xs (x4 + 1).toNatClampNeg)) fun r5 σ6 =>
  (fX10_thrown σ6).bind fun r7 =>
  if r7 = r2 then
  if r2 = 0 then
  if (lg_cmp (σ6 170 (Int32.toNatClampNeg 0)).toInt64 r5.toInt64) = 0 then
  bd (x4 + 6) fun v9 =>
  rec (σ6, v9)
else
  some 0
else
  bd (x4 + 6) fun v8 =>
  rec (σ6, v8)
else
  some 0
def u_law26 (xs : Nat → Int32) (Ln : Nat) (rec : Mm × Int32 → Option Int32) (σ : Mm) (x4 : Int32) : Option Int32 :=
  bn2 (fX9_saveSnapshot σ) fun r1 σ2 =>
  bn2 (fX10_saveSnapshot σ2) fun r3 σ4 =>
  if r1 = r3 then
  bd (x4 + 6) fun v5 =>
  rec (σ4, v5)
else
  some 0
def u_law27 (xs : Nat → Int32) (Ln : Nat) (rec : Mm × Int32 → Option Int32) (σ : Mm) (x4 : Int32) : Option Int32 :=
  bn2 (fL_restoreSnapshot σ ) fun r1 σ2 =>
  bn2 (fX10_restoreSnapshot σ2) fun r3 σ4 =>
  (fX10_thrown σ4).bind fun r5 =>
  if r5 = r1 then
  if r1 = 0 then
  if (lg_cmp (σ4 170 (Int32.toNatClampNeg 0)).toInt64 r3.toInt64) = 0 then
  bd (x4 + 6) fun v7 =>
  rec (σ4, v7)
else
  some 0
else
  bd (x4 + 6) fun v6 =>
  rec (σ4, v6)
else
  some 0
def g_law (xs : Nat → Int32) (Ln : Nat) (rec : Mm × Int32 → Option Int32) (σ : Mm) (x4 : Int32) : Option Int32 :=
  if Int32.ofNat Ln - 6 < x4 then
  some 1
else
  gd x4 Ln <|
  bd (xs x4.toNatClampNeg &&& 31) fun v =>
  if v = 0 then u_law0 xs Ln rec σ x4 else if v = 1 then u_law1 xs Ln rec σ x4 else if v = 2 then u_law2 xs Ln rec σ x4 else if v = 3 then u_law3 xs Ln rec σ x4 else if v = 4 then u_law4 xs Ln rec σ x4 else if v = 5 then u_law5 xs Ln rec σ x4 else if v = 6 then u_law6 xs Ln rec σ x4 else if v = 7 then u_law7 xs Ln rec σ x4 else if v = 8 then u_law8 xs Ln rec σ x4 else if v = 9 then u_law9 xs Ln rec σ x4 else if v = 10 then u_law10 xs Ln rec σ x4 else if v = 11 then u_law11 xs Ln rec σ x4 else if v = 12 then u_law12 xs Ln rec σ x4 else if v = 13 then u_law13 xs Ln rec σ x4 else if v = 14 then u_law14 xs Ln rec σ x4 else if v = 15 then u_law15 xs Ln rec σ x4 else if v = 16 then u_law16 xs Ln rec σ x4 else if v = 17 then u_law17 xs Ln rec σ x4 else if v = 18 then u_law18 xs Ln rec σ x4 else if v = 19 then u_law19 xs Ln rec σ x4 else if v = 20 then u_law20 xs Ln rec σ x4 else if v = 21 then u_law21 xs Ln rec σ x4 else if v = 22 then u_law22 xs Ln rec σ x4 else if v = 23 then u_law23 xs Ln rec σ x4 else if v = 24 then u_law24 xs Ln rec σ x4 else if v = 25 then u_law25 xs Ln rec σ x4 else if v = 26 then u_law26 xs Ln rec σ x4 else if v = 27 then u_law27 xs Ln rec σ x4 else 
  bd (x4 + 6) fun v2 => rec (σ, v2)
def q_law (xs : Nat → Int32) (Ln : Nat) : Nat → Mm × Int32 → Option Int32 := lp (fun rec s => g_law xs Ln rec s.1 s.2)
set_option maxHeartbeats 4000000 in
theorem k_law0 {X : sT} (hX : sX X cL_law RL 7 20 10830) (hlX : (sl X).stackTraces = false) (hRC : 603072 ≤ (sR X).cells ∧ 7186538 ≤ (sR X).slots) (hnc : sNc X) {b Ln : Nat} {xs : Nat → Int32} (hsc : sScr X b Ln xs) (hret : ∀ (cs : Nat × Nat) (σ : Mm) (pc : Nat) (L : List (Option Value)), (cs.1 ≤ 603072 ∧ cs.2 ≤ 7186538) → decode cL_law pc = .ok (.ireturn, 1) → sW X 7 cs σ pc L [.int 1]) {n : Nat} {rec : Mm × Int32 → Option Int32} (hrec : ∀ (s : Mm × Int32) (r : Int32), rec s = some r → r = 1 → ∀ cs, bnd n cs → sW X 7 cs s.1 23 [some (Value.ref b), some (.ref (sad X 0)), some (.ref (sad X 123)), some (.ref (sad X 170)), some (.int s.2), none, none] []) {cs : Nat × Nat} (hbn : bnd (n + 1) cs) {σ : Mm} {x4 r : Int32} (hr1 : r = 1) (h : u_law0 xs Ln rec σ x4 = some r) : sW X 7 cs σ 168 [some (Value.ref b), some (.ref (sad X 0)), some (.ref (sad X 123)), some (.ref (sad X 170)), some (.int x4), none, none] [] := by
  unfold u_law0 at h
  refine s_aload_n hX dL_law_168 rfl ?_
  refine s_aload_n hX dL_law_169 rfl ?_
  refine s_iload hX dL_law_170 rfl ?_
  refine s_iconst 1 hX dL_law_172 (by decide) ?_
  refine s_iadd hX dL_law_173 ?_
  obtain ⟨c1, h⟩ := gd_some h
  refine s_sld hX hsc c1 dL_law_174 ?_
  refine s_aload_n hX dL_law_175 rfl ?_
  obtain ⟨r2, σ3, hc, h⟩ := bn2_some h
  refine s_callSL _ hX (cL_clear_ok (sl X) hlX hc) mw_101 (fun _ => rfl) (by decide) (Nat.le_of_ble_eq_true rfl) (bnd_ct hRC hbn) hnc dL_law_176 rfl ?_
  have hbm := bnd_step hbn
  generalize (cs.1 + 1, cs.2 + 6) = cs at hbm ⊢
  refine s_istore hX dL_law_179 (by decide) ?_
  refine s_aload_n hX dL_law_181 rfl ?_
  refine s_aload_n hX dL_law_182 rfl ?_
  refine s_iload hX dL_law_183 rfl ?_
  refine s_iconst 1 hX dL_law_185 (by decide) ?_
  refine s_iadd hX dL_law_186 ?_
  obtain ⟨c4, h⟩ := gd_some h
  refine s_sld hX hsc c4 dL_law_187 ?_
  obtain ⟨r5, σ6, hc, h⟩ := bn2_some h
  refine s_callVI _ hX (cX10_clear_ok (sl X)  hc) SH_123 mv_RL_106_9 (fun _ => rfl) (by decide) (Nat.le_of_ble_eq_true rfl) (bnd_cs hRC hbm) dL_law_188 rfl ?_
  refine s_istore hX dL_law_191 (by decide) ?_
  refine s_aload_n hX dL_law_193 rfl ?_
  obtain ⟨r7, hc, h⟩ := bn_some h
  refine s_callVI _ hX (cX10_thrown_ok (sl X)  hc) SH_123 mv_RL_107_9 (fun _ => rfl) (by decide) (Nat.le_of_ble_eq_true rfl) (bnd_cs hRC hbm) dL_law_194 rfl ?_
  refine s_iload hX dL_law_197 rfl ?_
  refine s_ic_eq (tgt := 204) hX dL_law_199 (by decide) (fun c12 => ?_) (fun c12 => ?_)
  · replace h := (if_pos c12).symm.trans h
    refine s_iload hX dL_law_204 rfl ?_
    refine s_if_ne (tgt := 221) hX dL_law_206 (by decide) (fun c11 => ?_) (fun c11 => ?_)
    · replace h := (if_neg c11).symm.trans h
      refine s_goto (tgt := 1771) hX dL_law_221 (by decide) ?_
      obtain ⟨v8, ev8, h⟩ := bd_some h
      refine s_iinc v8 hX dL_law_1771 rfl (by rw [ev8]; rfl) (by decide) ?_
      refine s_goto (tgt := 23) hX dL_law_1774 (by decide) ?_
      refine s_mask [true, true, true, true, true, false, false] ?_
      exact hrec _ _ h hr1 _ hbm
    · replace h := (if_pos c11).symm.trans h
      refine s_aload_n hX dL_law_209 rfl ?_
      refine s_iconst 0 hX dL_law_210 (by decide) ?_
      refine s_lald hX in01 dL_law_211 ?_
      refine s_iload hX dL_law_212 rfl ?_
      refine s_i2l hX dL_law_214 ?_
      refine s_lcmp hX dL_law_215 ?_
      refine s_if_eq (tgt := 221) hX dL_law_216 (by decide) (fun c10 => ?_) (fun c10 => ?_)
      · replace h := (if_pos c10).symm.trans h
        refine s_goto (tgt := 1771) hX dL_law_221 (by decide) ?_
        obtain ⟨v9, ev9, h⟩ := bd_some h
        refine s_iinc v9 hX dL_law_1771 rfl (by rw [ev9]; rfl) (by decide) ?_
        refine s_goto (tgt := 23) hX dL_law_1774 (by decide) ?_
        refine s_mask [true, true, true, true, true, false, false] ?_
        exact hrec _ _ h hr1 _ hbm
      · replace h := (if_neg c10).symm.trans h
        refine s_iconst 0 hX dL_law_219 (by decide) ?_
        exact absurd (rt1 h).symm (by rw [hr1]; decide)
  · replace h := (if_neg c12).symm.trans h
    refine s_iconst 0 hX dL_law_202 (by decide) ?_
    exact absurd (rt1 h).symm (by rw [hr1]; decide)
set_option maxHeartbeats 4000000 in
theorem k_law1 {X : sT} (hX : sX X cL_law RL 7 20 10830) (hlX : (sl X).stackTraces = false) (hRC : 603072 ≤ (sR X).cells ∧ 7186538 ≤ (sR X).slots) (hnc : sNc X) {b Ln : Nat} {xs : Nat → Int32} (hsc : sScr X b Ln xs) (hret : ∀ (cs : Nat × Nat) (σ : Mm) (pc : Nat) (L : List (Option Value)), (cs.1 ≤ 603072 ∧ cs.2 ≤ 7186538) → decode cL_law pc = .ok (.ireturn, 1) → sW X 7 cs σ pc L [.int 1]) {n : Nat} {rec : Mm × Int32 → Option Int32} (hrec : ∀ (s : Mm × Int32) (r : Int32), rec s = some r → r = 1 → ∀ cs, bnd n cs → sW X 7 cs s.1 23 [some (Value.ref b), some (.ref (sad X 0)), some (.ref (sad X 123)), some (.ref (sad X 170)), some (.int s.2), none, none] []) {cs : Nat × Nat} (hbn : bnd (n + 1) cs) {σ : Mm} {x4 r : Int32} (hr1 : r = 1) (h : u_law1 xs Ln rec σ x4 = some r) : sW X 7 cs σ 224 [some (Value.ref b), some (.ref (sad X 0)), some (.ref (sad X 123)), some (.ref (sad X 170)), some (.int x4), none, none] [] := by
  unfold u_law1 at h
  refine s_aload_n hX dL_law_224 rfl ?_
  refine s_aload_n hX dL_law_225 rfl ?_
  refine s_iload hX dL_law_226 rfl ?_
  refine s_iconst 1 hX dL_law_228 (by decide) ?_
  refine s_iadd hX dL_law_229 ?_
  obtain ⟨c1, h⟩ := gd_some h
  refine s_sld hX hsc c1 dL_law_230 ?_
  refine s_aload_n hX dL_law_231 rfl ?_
  refine s_iload hX dL_law_232 rfl ?_
  refine s_iconst 2 hX dL_law_234 (by decide) ?_
  refine s_iadd hX dL_law_235 ?_
  obtain ⟨c2, h⟩ := gd_some h
  refine s_sld hX hsc c2 dL_law_236 ?_
  refine s_aload_n hX dL_law_237 rfl ?_
  refine s_iload hX dL_law_238 rfl ?_
  refine s_iconst 3 hX dL_law_240 (by decide) ?_
  refine s_iadd hX dL_law_241 ?_
  obtain ⟨c3, h⟩ := gd_some h
  refine s_sld hX hsc c3 dL_law_242 ?_
  refine s_aload_n hX dL_law_243 rfl ?_
  refine s_iload hX dL_law_244 rfl ?_
  refine s_iconst 4 hX dL_law_246 (by decide) ?_
  refine s_iadd hX dL_law_247 ?_
  obtain ⟨c4, h⟩ := gd_some h
  refine s_sld hX hsc c4 dL_law_248 ?_
  refine s_aload_n hX dL_law_249 rfl ?_
  refine s_iload hX dL_law_250 rfl ?_
  refine s_iconst 5 hX dL_law_252 (by decide) ?_
  refine s_iadd hX dL_law_253 ?_
  obtain ⟨c5, h⟩ := gd_some h
  refine s_sld hX hsc c5 dL_law_254 ?_
  refine s_aload_n hX dL_law_255 rfl ?_
  obtain ⟨r6, σ7, hc, h⟩ := bn2_some h
  refine s_callSL _ hX (cL_append_ok (sl X) hlX hc) mw_110 (fun _ => rfl) (by decide) (Nat.le_of_ble_eq_true rfl) (bnd_ct hRC hbn) hnc dL_law_256 rfl ?_
  have hbm := bnd_step hbn
  generalize (cs.1 + 1, cs.2 + 6) = cs at hbm ⊢
  refine s_istore hX dL_law_259 (by decide) ?_
  refine s_aload_n hX dL_law_261 rfl ?_
  refine s_aload_n hX dL_law_262 rfl ?_
  refine s_iload hX dL_law_263 rfl ?_
  refine s_iconst 1 hX dL_law_265 (by decide) ?_
  refine s_iadd hX dL_law_266 ?_
  obtain ⟨c8, h⟩ := gd_some h
  refine s_sld hX hsc c8 dL_law_267 ?_
  refine s_aload_n hX dL_law_268 rfl ?_
  refine s_iload hX dL_law_269 rfl ?_
  refine s_iconst 2 hX dL_law_271 (by decide) ?_
  refine s_iadd hX dL_law_272 ?_
  obtain ⟨c9, h⟩ := gd_some h
  refine s_sld hX hsc c9 dL_law_273 ?_
  refine s_aload_n hX dL_law_274 rfl ?_
  refine s_iload hX dL_law_275 rfl ?_
  refine s_iconst 3 hX dL_law_277 (by decide) ?_
  refine s_iadd hX dL_law_278 ?_
  obtain ⟨c10, h⟩ := gd_some h
  refine s_sld hX hsc c10 dL_law_279 ?_
  refine s_aload_n hX dL_law_280 rfl ?_
  refine s_iload hX dL_law_281 rfl ?_
  refine s_iconst 4 hX dL_law_283 (by decide) ?_
  refine s_iadd hX dL_law_284 ?_
  obtain ⟨c11, h⟩ := gd_some h
  refine s_sld hX hsc c11 dL_law_285 ?_
  refine s_aload_n hX dL_law_286 rfl ?_
  refine s_iload hX dL_law_287 rfl ?_
  refine s_iconst 5 hX dL_law_289 (by decide) ?_
  refine s_iadd hX dL_law_290 ?_
  obtain ⟨c12, h⟩ := gd_some h
  refine s_sld hX hsc c12 dL_law_291 ?_
  obtain ⟨r13, σ14, hc, h⟩ := bn2_some h
  refine s_callVI _ hX (cX10_append_ok (sl X)  hc) SH_123 mv_RL_113_9 (fun _ => rfl) (by decide) (Nat.le_of_ble_eq_true rfl) (bnd_cs hRC hbm) dL_law_292 rfl ?_
  refine s_istore hX dL_law_295 (by decide) ?_
  refine s_aload_n hX dL_law_297 rfl ?_
  obtain ⟨r15, hc, h⟩ := bn_some h
  refine s_callVI _ hX (cX10_thrown_ok (sl X)  hc) SH_123 mv_RL_107_9 (fun _ => rfl) (by decide) (Nat.le_of_ble_eq_true rfl) (bnd_cs hRC hbm) dL_law_298 rfl ?_
  refine s_iload hX dL_law_301 rfl ?_
  refine s_ic_eq (tgt := 308) hX dL_law_303 (by decide) (fun c20 => ?_) (fun c20 => ?_)
  · replace h := (if_pos c20).symm.trans h
    refine s_iload hX dL_law_308 rfl ?_
    refine s_if_ne (tgt := 325) hX dL_law_310 (by decide) (fun c19 => ?_) (fun c19 => ?_)
    · replace h := (if_neg c19).symm.trans h
      refine s_goto (tgt := 1771) hX dL_law_325 (by decide) ?_
      obtain ⟨v16, ev16, h⟩ := bd_some h
      refine s_iinc v16 hX dL_law_1771 rfl (by rw [ev16]; rfl) (by decide) ?_
      refine s_goto (tgt := 23) hX dL_law_1774 (by decide) ?_
      refine s_mask [true, true, true, true, true, false, false] ?_
      exact hrec _ _ h hr1 _ hbm
    · replace h := (if_pos c19).symm.trans h
      refine s_aload_n hX dL_law_313 rfl ?_
      refine s_iconst 0 hX dL_law_314 (by decide) ?_
      refine s_lald hX in01 dL_law_315 ?_
      refine s_iload hX dL_law_316 rfl ?_
      refine s_i2l hX dL_law_318 ?_
      refine s_lcmp hX dL_law_319 ?_
      refine s_if_eq (tgt := 325) hX dL_law_320 (by decide) (fun c18 => ?_) (fun c18 => ?_)
      · replace h := (if_pos c18).symm.trans h
        refine s_goto (tgt := 1771) hX dL_law_325 (by decide) ?_
        obtain ⟨v17, ev17, h⟩ := bd_some h
        refine s_iinc v17 hX dL_law_1771 rfl (by rw [ev17]; rfl) (by decide) ?_
        refine s_goto (tgt := 23) hX dL_law_1774 (by decide) ?_
        refine s_mask [true, true, true, true, true, false, false] ?_
        exact hrec _ _ h hr1 _ hbm
      · replace h := (if_neg c18).symm.trans h
        refine s_iconst 0 hX dL_law_323 (by decide) ?_
        exact absurd (rt1 h).symm (by rw [hr1]; decide)
  · replace h := (if_neg c20).symm.trans h
    refine s_iconst 0 hX dL_law_306 (by decide) ?_
    exact absurd (rt1 h).symm (by rw [hr1]; decide)
set_option maxHeartbeats 4000000 in
theorem k_law2 {X : sT} (hX : sX X cL_law RL 7 20 10830) (hlX : (sl X).stackTraces = false) (hRC : 603072 ≤ (sR X).cells ∧ 7186538 ≤ (sR X).slots) (hnc : sNc X) {b Ln : Nat} {xs : Nat → Int32} (hsc : sScr X b Ln xs) (hret : ∀ (cs : Nat × Nat) (σ : Mm) (pc : Nat) (L : List (Option Value)), (cs.1 ≤ 603072 ∧ cs.2 ≤ 7186538) → decode cL_law pc = .ok (.ireturn, 1) → sW X 7 cs σ pc L [.int 1]) {n : Nat} {rec : Mm × Int32 → Option Int32} (hrec : ∀ (s : Mm × Int32) (r : Int32), rec s = some r → r = 1 → ∀ cs, bnd n cs → sW X 7 cs s.1 23 [some (Value.ref b), some (.ref (sad X 0)), some (.ref (sad X 123)), some (.ref (sad X 170)), some (.int s.2), none, none] []) {cs : Nat × Nat} (hbn : bnd (n + 1) cs) {σ : Mm} {x4 r : Int32} (hr1 : r = 1) (h : u_law2 xs Ln rec σ x4 = some r) : sW X 7 cs σ 328 [some (Value.ref b), some (.ref (sad X 0)), some (.ref (sad X 123)), some (.ref (sad X 170)), some (.int x4), none, none] [] := by
  unfold u_law2 at h
  refine s_aload_n hX dL_law_328 rfl ?_
  refine s_aload_n hX dL_law_329 rfl ?_
  refine s_iload hX dL_law_330 rfl ?_
  refine s_iconst 1 hX dL_law_332 (by decide) ?_
  refine s_iadd hX dL_law_333 ?_
  obtain ⟨c1, h⟩ := gd_some h
  refine s_sld hX hsc c1 dL_law_334 ?_
  refine s_aload_n hX dL_law_335 rfl ?_
  obtain ⟨r2, σ3, hc, h⟩ := bn2_some h
  refine s_callSL _ hX (cL_removeLast_ok (sl X) hlX hc) mw_114 (fun _ => rfl) (by decide) (Nat.le_of_ble_eq_true rfl) (bnd_ct hRC hbn) hnc dL_law_336 rfl ?_
  have hbm := bnd_step hbn
  generalize (cs.1 + 1, cs.2 + 6) = cs at hbm ⊢
  refine s_istore hX dL_law_339 (by decide) ?_
  refine s_aload_n hX dL_law_341 rfl ?_
  refine s_aload_n hX dL_law_342 rfl ?_
  refine s_iload hX dL_law_343 rfl ?_
  refine s_iconst 1 hX dL_law_345 (by decide) ?_
  refine s_iadd hX dL_law_346 ?_
  obtain ⟨c4, h⟩ := gd_some h
  refine s_sld hX hsc c4 dL_law_347 ?_
  obtain ⟨r5, σ6, hc, h⟩ := bn2_some h
  refine s_callVI _ hX (cX10_removeLast_ok (sl X)  hc) SH_123 mv_RL_116_9 (fun _ => rfl) (by decide) (Nat.le_of_ble_eq_true rfl) (bnd_cs hRC hbm) dL_law_348 rfl ?_
  refine s_istore hX dL_law_351 (by decide) ?_
  refine s_aload_n hX dL_law_353 rfl ?_
  obtain ⟨r7, hc, h⟩ := bn_some h
  refine s_callVI _ hX (cX10_thrown_ok (sl X)  hc) SH_123 mv_RL_107_9 (fun _ => rfl) (by decide) (Nat.le_of_ble_eq_true rfl) (bnd_cs hRC hbm) dL_law_354 rfl ?_
  refine s_iload hX dL_law_357 rfl ?_
  refine s_ic_eq (tgt := 364) hX dL_law_359 (by decide) (fun c12 => ?_) (fun c12 => ?_)
  · replace h := (if_pos c12).symm.trans h
    refine s_iload hX dL_law_364 rfl ?_
    refine s_if_ne (tgt := 381) hX dL_law_366 (by decide) (fun c11 => ?_) (fun c11 => ?_)
    · replace h := (if_neg c11).symm.trans h
      refine s_goto (tgt := 1771) hX dL_law_381 (by decide) ?_
      obtain ⟨v8, ev8, h⟩ := bd_some h
      refine s_iinc v8 hX dL_law_1771 rfl (by rw [ev8]; rfl) (by decide) ?_
      refine s_goto (tgt := 23) hX dL_law_1774 (by decide) ?_
      refine s_mask [true, true, true, true, true, false, false] ?_
      exact hrec _ _ h hr1 _ hbm
    · replace h := (if_pos c11).symm.trans h
      refine s_aload_n hX dL_law_369 rfl ?_
      refine s_iconst 0 hX dL_law_370 (by decide) ?_
      refine s_lald hX in01 dL_law_371 ?_
      refine s_iload hX dL_law_372 rfl ?_
      refine s_i2l hX dL_law_374 ?_
      refine s_lcmp hX dL_law_375 ?_
      refine s_if_eq (tgt := 381) hX dL_law_376 (by decide) (fun c10 => ?_) (fun c10 => ?_)
      · replace h := (if_pos c10).symm.trans h
        refine s_goto (tgt := 1771) hX dL_law_381 (by decide) ?_
        obtain ⟨v9, ev9, h⟩ := bd_some h
        refine s_iinc v9 hX dL_law_1771 rfl (by rw [ev9]; rfl) (by decide) ?_
        refine s_goto (tgt := 23) hX dL_law_1774 (by decide) ?_
        refine s_mask [true, true, true, true, true, false, false] ?_
        exact hrec _ _ h hr1 _ hbm
      · replace h := (if_neg c10).symm.trans h
        refine s_iconst 0 hX dL_law_379 (by decide) ?_
        exact absurd (rt1 h).symm (by rw [hr1]; decide)
  · replace h := (if_neg c12).symm.trans h
    refine s_iconst 0 hX dL_law_362 (by decide) ?_
    exact absurd (rt1 h).symm (by rw [hr1]; decide)
set_option maxHeartbeats 4000000 in
theorem k_law3 {X : sT} (hX : sX X cL_law RL 7 20 10830) (hlX : (sl X).stackTraces = false) (hRC : 603072 ≤ (sR X).cells ∧ 7186538 ≤ (sR X).slots) (hnc : sNc X) {b Ln : Nat} {xs : Nat → Int32} (hsc : sScr X b Ln xs) (hret : ∀ (cs : Nat × Nat) (σ : Mm) (pc : Nat) (L : List (Option Value)), (cs.1 ≤ 603072 ∧ cs.2 ≤ 7186538) → decode cL_law pc = .ok (.ireturn, 1) → sW X 7 cs σ pc L [.int 1]) {n : Nat} {rec : Mm × Int32 → Option Int32} (hrec : ∀ (s : Mm × Int32) (r : Int32), rec s = some r → r = 1 → ∀ cs, bnd n cs → sW X 7 cs s.1 23 [some (Value.ref b), some (.ref (sad X 0)), some (.ref (sad X 123)), some (.ref (sad X 170)), some (.int s.2), none, none] []) {cs : Nat × Nat} (hbn : bnd (n + 1) cs) {σ : Mm} {x4 r : Int32} (hr1 : r = 1) (h : u_law3 xs Ln rec σ x4 = some r) : sW X 7 cs σ 384 [some (Value.ref b), some (.ref (sad X 0)), some (.ref (sad X 123)), some (.ref (sad X 170)), some (.int x4), none, none] [] := by
  unfold u_law3 at h
  refine s_aload_n hX dL_law_384 rfl ?_
  refine s_aload_n hX dL_law_385 rfl ?_
  refine s_iload hX dL_law_386 rfl ?_
  refine s_iconst 1 hX dL_law_388 (by decide) ?_
  refine s_iadd hX dL_law_389 ?_
  obtain ⟨c1, h⟩ := gd_some h
  refine s_sld hX hsc c1 dL_law_390 ?_
  refine s_aload_n hX dL_law_391 rfl ?_
  refine s_iload hX dL_law_392 rfl ?_
  refine s_iconst 2 hX dL_law_394 (by decide) ?_
  refine s_iadd hX dL_law_395 ?_
  obtain ⟨c2, h⟩ := gd_some h
  refine s_sld hX hsc c2 dL_law_396 ?_
  refine s_aload_n hX dL_law_397 rfl ?_
  refine s_iload hX dL_law_398 rfl ?_
  refine s_iconst 3 hX dL_law_400 (by decide) ?_
  refine s_iadd hX dL_law_401 ?_
  obtain ⟨c3, h⟩ := gd_some h
  refine s_sld hX hsc c3 dL_law_402 ?_
  refine s_aload_n hX dL_law_403 rfl ?_
  refine s_iload hX dL_law_404 rfl ?_
  refine s_iconst 4 hX dL_law_406 (by decide) ?_
  refine s_iadd hX dL_law_407 ?_
  obtain ⟨c4, h⟩ := gd_some h
  refine s_sld hX hsc c4 dL_law_408 ?_
  refine s_aload_n hX dL_law_409 rfl ?_
  refine s_iload hX dL_law_410 rfl ?_
  refine s_iconst 5 hX dL_law_412 (by decide) ?_
  refine s_iadd hX dL_law_413 ?_
  obtain ⟨c5, h⟩ := gd_some h
  refine s_sld hX hsc c5 dL_law_414 ?_
  refine s_aload_n hX dL_law_415 rfl ?_
  obtain ⟨r6, σ7, hc, h⟩ := bn2_some h
  refine s_callSL _ hX (cL_setEnd_ok (sl X) hlX hc) mw_117 (fun _ => rfl) (by decide) (Nat.le_of_ble_eq_true rfl) (bnd_ct hRC hbn) hnc dL_law_416 rfl ?_
  have hbm := bnd_step hbn
  generalize (cs.1 + 1, cs.2 + 6) = cs at hbm ⊢
  refine s_istore hX dL_law_419 (by decide) ?_
  refine s_aload_n hX dL_law_421 rfl ?_
  refine s_aload_n hX dL_law_422 rfl ?_
  refine s_iload hX dL_law_423 rfl ?_
  refine s_iconst 1 hX dL_law_425 (by decide) ?_
  refine s_iadd hX dL_law_426 ?_
  obtain ⟨c8, h⟩ := gd_some h
  refine s_sld hX hsc c8 dL_law_427 ?_
  refine s_aload_n hX dL_law_428 rfl ?_
  refine s_iload hX dL_law_429 rfl ?_
  refine s_iconst 2 hX dL_law_431 (by decide) ?_
  refine s_iadd hX dL_law_432 ?_
  obtain ⟨c9, h⟩ := gd_some h
  refine s_sld hX hsc c9 dL_law_433 ?_
  refine s_aload_n hX dL_law_434 rfl ?_
  refine s_iload hX dL_law_435 rfl ?_
  refine s_iconst 3 hX dL_law_437 (by decide) ?_
  refine s_iadd hX dL_law_438 ?_
  obtain ⟨c10, h⟩ := gd_some h
  refine s_sld hX hsc c10 dL_law_439 ?_
  refine s_aload_n hX dL_law_440 rfl ?_
  refine s_iload hX dL_law_441 rfl ?_
  refine s_iconst 4 hX dL_law_443 (by decide) ?_
  refine s_iadd hX dL_law_444 ?_
  obtain ⟨c11, h⟩ := gd_some h
  refine s_sld hX hsc c11 dL_law_445 ?_
  refine s_aload_n hX dL_law_446 rfl ?_
  refine s_iload hX dL_law_447 rfl ?_
  refine s_iconst 5 hX dL_law_449 (by decide) ?_
  refine s_iadd hX dL_law_450 ?_
  obtain ⟨c12, h⟩ := gd_some h
  refine s_sld hX hsc c12 dL_law_451 ?_
  obtain ⟨r13, σ14, hc, h⟩ := bn2_some h
  refine s_callVI _ hX (cX10_setEnd_ok (sl X)  hc) SH_123 mv_RL_119_9 (fun _ => rfl) (by decide) (Nat.le_of_ble_eq_true rfl) (bnd_cs hRC hbm) dL_law_452 rfl ?_
  refine s_istore hX dL_law_455 (by decide) ?_
  refine s_aload_n hX dL_law_457 rfl ?_
  obtain ⟨r15, hc, h⟩ := bn_some h
  refine s_callVI _ hX (cX10_thrown_ok (sl X)  hc) SH_123 mv_RL_107_9 (fun _ => rfl) (by decide) (Nat.le_of_ble_eq_true rfl) (bnd_cs hRC hbm) dL_law_458 rfl ?_
  refine s_iload hX dL_law_461 rfl ?_
  refine s_ic_eq (tgt := 468) hX dL_law_463 (by decide) (fun c20 => ?_) (fun c20 => ?_)
  · replace h := (if_pos c20).symm.trans h
    refine s_iload hX dL_law_468 rfl ?_
    refine s_if_ne (tgt := 485) hX dL_law_470 (by decide) (fun c19 => ?_) (fun c19 => ?_)
    · replace h := (if_neg c19).symm.trans h
      refine s_goto (tgt := 1771) hX dL_law_485 (by decide) ?_
      obtain ⟨v16, ev16, h⟩ := bd_some h
      refine s_iinc v16 hX dL_law_1771 rfl (by rw [ev16]; rfl) (by decide) ?_
      refine s_goto (tgt := 23) hX dL_law_1774 (by decide) ?_
      refine s_mask [true, true, true, true, true, false, false] ?_
      exact hrec _ _ h hr1 _ hbm
    · replace h := (if_pos c19).symm.trans h
      refine s_aload_n hX dL_law_473 rfl ?_
      refine s_iconst 0 hX dL_law_474 (by decide) ?_
      refine s_lald hX in01 dL_law_475 ?_
      refine s_iload hX dL_law_476 rfl ?_
      refine s_i2l hX dL_law_478 ?_
      refine s_lcmp hX dL_law_479 ?_
      refine s_if_eq (tgt := 485) hX dL_law_480 (by decide) (fun c18 => ?_) (fun c18 => ?_)
      · replace h := (if_pos c18).symm.trans h
        refine s_goto (tgt := 1771) hX dL_law_485 (by decide) ?_
        obtain ⟨v17, ev17, h⟩ := bd_some h
        refine s_iinc v17 hX dL_law_1771 rfl (by rw [ev17]; rfl) (by decide) ?_
        refine s_goto (tgt := 23) hX dL_law_1774 (by decide) ?_
        refine s_mask [true, true, true, true, true, false, false] ?_
        exact hrec _ _ h hr1 _ hbm
      · replace h := (if_neg c18).symm.trans h
        refine s_iconst 0 hX dL_law_483 (by decide) ?_
        exact absurd (rt1 h).symm (by rw [hr1]; decide)
  · replace h := (if_neg c20).symm.trans h
    refine s_iconst 0 hX dL_law_466 (by decide) ?_
    exact absurd (rt1 h).symm (by rw [hr1]; decide)
set_option maxHeartbeats 4000000 in
theorem k_law4 {X : sT} (hX : sX X cL_law RL 7 20 10830) (hlX : (sl X).stackTraces = false) (hRC : 603072 ≤ (sR X).cells ∧ 7186538 ≤ (sR X).slots) (hnc : sNc X) {b Ln : Nat} {xs : Nat → Int32} (hsc : sScr X b Ln xs) (hret : ∀ (cs : Nat × Nat) (σ : Mm) (pc : Nat) (L : List (Option Value)), (cs.1 ≤ 603072 ∧ cs.2 ≤ 7186538) → decode cL_law pc = .ok (.ireturn, 1) → sW X 7 cs σ pc L [.int 1]) {n : Nat} {rec : Mm × Int32 → Option Int32} (hrec : ∀ (s : Mm × Int32) (r : Int32), rec s = some r → r = 1 → ∀ cs, bnd n cs → sW X 7 cs s.1 23 [some (Value.ref b), some (.ref (sad X 0)), some (.ref (sad X 123)), some (.ref (sad X 170)), some (.int s.2), none, none] []) {cs : Nat × Nat} (hbn : bnd (n + 1) cs) {σ : Mm} {x4 r : Int32} (hr1 : r = 1) (h : u_law4 xs Ln rec σ x4 = some r) : sW X 7 cs σ 488 [some (Value.ref b), some (.ref (sad X 0)), some (.ref (sad X 123)), some (.ref (sad X 170)), some (.int x4), none, none] [] := by
  unfold u_law4 at h
  refine s_aload_n hX dL_law_488 rfl ?_
  refine s_aload_n hX dL_law_489 rfl ?_
  refine s_iload hX dL_law_490 rfl ?_
  refine s_iconst 1 hX dL_law_492 (by decide) ?_
  refine s_iadd hX dL_law_493 ?_
  obtain ⟨c1, h⟩ := gd_some h
  refine s_sld hX hsc c1 dL_law_494 ?_
  refine s_aload_n hX dL_law_495 rfl ?_
  refine s_iload hX dL_law_496 rfl ?_
  refine s_iconst 2 hX dL_law_498 (by decide) ?_
  refine s_iadd hX dL_law_499 ?_
  obtain ⟨c2, h⟩ := gd_some h
  refine s_sld hX hsc c2 dL_law_500 ?_
  refine s_aload_n hX dL_law_501 rfl ?_
  obtain ⟨r3, σ4, hc, h⟩ := bn2_some h
  refine s_callSL _ hX (cL_setFrequency_ok (sl X) hlX hc) mw_120 (fun _ => rfl) (by decide) (Nat.le_of_ble_eq_true rfl) (bnd_ct hRC hbn) hnc dL_law_502 rfl ?_
  have hbm := bnd_step hbn
  generalize (cs.1 + 1, cs.2 + 6) = cs at hbm ⊢
  refine s_istore hX dL_law_505 (by decide) ?_
  refine s_aload_n hX dL_law_507 rfl ?_
  refine s_aload_n hX dL_law_508 rfl ?_
  refine s_iload hX dL_law_509 rfl ?_
  refine s_iconst 1 hX dL_law_511 (by decide) ?_
  refine s_iadd hX dL_law_512 ?_
  obtain ⟨c5, h⟩ := gd_some h
  refine s_sld hX hsc c5 dL_law_513 ?_
  refine s_aload_n hX dL_law_514 rfl ?_
  refine s_iload hX dL_law_515 rfl ?_
  refine s_iconst 2 hX dL_law_517 (by decide) ?_
  refine s_iadd hX dL_law_518 ?_
  obtain ⟨c6, h⟩ := gd_some h
  refine s_sld hX hsc c6 dL_law_519 ?_
  obtain ⟨r7, σ8, hc, h⟩ := bn2_some h
  refine s_callVI _ hX (cX10_setFrequency_ok (sl X)  hc) SH_123 mv_RL_123_9 (fun _ => rfl) (by decide) (Nat.le_of_ble_eq_true rfl) (bnd_cs hRC hbm) dL_law_520 rfl ?_
  refine s_istore hX dL_law_523 (by decide) ?_
  refine s_aload_n hX dL_law_525 rfl ?_
  obtain ⟨r9, hc, h⟩ := bn_some h
  refine s_callVI _ hX (cX10_thrown_ok (sl X)  hc) SH_123 mv_RL_107_9 (fun _ => rfl) (by decide) (Nat.le_of_ble_eq_true rfl) (bnd_cs hRC hbm) dL_law_526 rfl ?_
  refine s_iload hX dL_law_529 rfl ?_
  refine s_ic_eq (tgt := 536) hX dL_law_531 (by decide) (fun c14 => ?_) (fun c14 => ?_)
  · replace h := (if_pos c14).symm.trans h
    refine s_iload hX dL_law_536 rfl ?_
    refine s_if_ne (tgt := 553) hX dL_law_538 (by decide) (fun c13 => ?_) (fun c13 => ?_)
    · replace h := (if_neg c13).symm.trans h
      refine s_goto (tgt := 1771) hX dL_law_553 (by decide) ?_
      obtain ⟨v10, ev10, h⟩ := bd_some h
      refine s_iinc v10 hX dL_law_1771 rfl (by rw [ev10]; rfl) (by decide) ?_
      refine s_goto (tgt := 23) hX dL_law_1774 (by decide) ?_
      refine s_mask [true, true, true, true, true, false, false] ?_
      exact hrec _ _ h hr1 _ hbm
    · replace h := (if_pos c13).symm.trans h
      refine s_aload_n hX dL_law_541 rfl ?_
      refine s_iconst 0 hX dL_law_542 (by decide) ?_
      refine s_lald hX in01 dL_law_543 ?_
      refine s_iload hX dL_law_544 rfl ?_
      refine s_i2l hX dL_law_546 ?_
      refine s_lcmp hX dL_law_547 ?_
      refine s_if_eq (tgt := 553) hX dL_law_548 (by decide) (fun c12 => ?_) (fun c12 => ?_)
      · replace h := (if_pos c12).symm.trans h
        refine s_goto (tgt := 1771) hX dL_law_553 (by decide) ?_
        obtain ⟨v11, ev11, h⟩ := bd_some h
        refine s_iinc v11 hX dL_law_1771 rfl (by rw [ev11]; rfl) (by decide) ?_
        refine s_goto (tgt := 23) hX dL_law_1774 (by decide) ?_
        refine s_mask [true, true, true, true, true, false, false] ?_
        exact hrec _ _ h hr1 _ hbm
      · replace h := (if_neg c12).symm.trans h
        refine s_iconst 0 hX dL_law_551 (by decide) ?_
        exact absurd (rt1 h).symm (by rw [hr1]; decide)
  · replace h := (if_neg c14).symm.trans h
    refine s_iconst 0 hX dL_law_534 (by decide) ?_
    exact absurd (rt1 h).symm (by rw [hr1]; decide)
set_option maxHeartbeats 4000000 in
theorem k_law5 {X : sT} (hX : sX X cL_law RL 7 20 10830) (hlX : (sl X).stackTraces = false) (hRC : 603072 ≤ (sR X).cells ∧ 7186538 ≤ (sR X).slots) (hnc : sNc X) {b Ln : Nat} {xs : Nat → Int32} (hsc : sScr X b Ln xs) (hret : ∀ (cs : Nat × Nat) (σ : Mm) (pc : Nat) (L : List (Option Value)), (cs.1 ≤ 603072 ∧ cs.2 ≤ 7186538) → decode cL_law pc = .ok (.ireturn, 1) → sW X 7 cs σ pc L [.int 1]) {n : Nat} {rec : Mm × Int32 → Option Int32} (hrec : ∀ (s : Mm × Int32) (r : Int32), rec s = some r → r = 1 → ∀ cs, bnd n cs → sW X 7 cs s.1 23 [some (Value.ref b), some (.ref (sad X 0)), some (.ref (sad X 123)), some (.ref (sad X 170)), some (.int s.2), none, none] []) {cs : Nat × Nat} (hbn : bnd (n + 1) cs) {σ : Mm} {x4 r : Int32} (hr1 : r = 1) (h : u_law5 xs Ln rec σ x4 = some r) : sW X 7 cs σ 556 [some (Value.ref b), some (.ref (sad X 0)), some (.ref (sad X 123)), some (.ref (sad X 170)), some (.int x4), none, none] [] := by
  unfold u_law5 at h
  refine s_aload_n hX dL_law_556 rfl ?_
  refine s_aload_n hX dL_law_557 rfl ?_
  refine s_iload hX dL_law_558 rfl ?_
  refine s_iconst 1 hX dL_law_560 (by decide) ?_
  refine s_iadd hX dL_law_561 ?_
  obtain ⟨c1, h⟩ := gd_some h
  refine s_sld hX hsc c1 dL_law_562 ?_
  refine s_aload_n hX dL_law_563 rfl ?_
  refine s_iload hX dL_law_564 rfl ?_
  refine s_iconst 2 hX dL_law_566 (by decide) ?_
  refine s_iadd hX dL_law_567 ?_
  obtain ⟨c2, h⟩ := gd_some h
  refine s_sld hX hsc c2 dL_law_568 ?_
  refine s_aload_n hX dL_law_569 rfl ?_
  obtain ⟨r3, σ4, hc, h⟩ := bn2_some h
  refine s_callSL _ hX (cL_setInitial_ok (sl X) hlX hc) mw_124 (fun _ => rfl) (by decide) (Nat.le_of_ble_eq_true rfl) (bnd_ct hRC hbn) hnc dL_law_570 rfl ?_
  have hbm := bnd_step hbn
  generalize (cs.1 + 1, cs.2 + 6) = cs at hbm ⊢
  refine s_istore hX dL_law_573 (by decide) ?_
  refine s_aload_n hX dL_law_575 rfl ?_
  refine s_aload_n hX dL_law_576 rfl ?_
  refine s_iload hX dL_law_577 rfl ?_
  refine s_iconst 1 hX dL_law_579 (by decide) ?_
  refine s_iadd hX dL_law_580 ?_
  obtain ⟨c5, h⟩ := gd_some h
  refine s_sld hX hsc c5 dL_law_581 ?_
  refine s_aload_n hX dL_law_582 rfl ?_
  refine s_iload hX dL_law_583 rfl ?_
  refine s_iconst 2 hX dL_law_585 (by decide) ?_
  refine s_iadd hX dL_law_586 ?_
  obtain ⟨c6, h⟩ := gd_some h
  refine s_sld hX hsc c6 dL_law_587 ?_
  obtain ⟨r7, σ8, hc, h⟩ := bn2_some h
  refine s_callVI _ hX (cX10_setInitial_ok (sl X)  hc) SH_123 mv_RL_126_9 (fun _ => rfl) (by decide) (Nat.le_of_ble_eq_true rfl) (bnd_cs hRC hbm) dL_law_588 rfl ?_
  refine s_istore hX dL_law_591 (by decide) ?_
  refine s_aload_n hX dL_law_593 rfl ?_
  obtain ⟨r9, hc, h⟩ := bn_some h
  refine s_callVI _ hX (cX10_thrown_ok (sl X)  hc) SH_123 mv_RL_107_9 (fun _ => rfl) (by decide) (Nat.le_of_ble_eq_true rfl) (bnd_cs hRC hbm) dL_law_594 rfl ?_
  refine s_iload hX dL_law_597 rfl ?_
  refine s_ic_eq (tgt := 604) hX dL_law_599 (by decide) (fun c14 => ?_) (fun c14 => ?_)
  · replace h := (if_pos c14).symm.trans h
    refine s_iload hX dL_law_604 rfl ?_
    refine s_if_ne (tgt := 621) hX dL_law_606 (by decide) (fun c13 => ?_) (fun c13 => ?_)
    · replace h := (if_neg c13).symm.trans h
      refine s_goto (tgt := 1771) hX dL_law_621 (by decide) ?_
      obtain ⟨v10, ev10, h⟩ := bd_some h
      refine s_iinc v10 hX dL_law_1771 rfl (by rw [ev10]; rfl) (by decide) ?_
      refine s_goto (tgt := 23) hX dL_law_1774 (by decide) ?_
      refine s_mask [true, true, true, true, true, false, false] ?_
      exact hrec _ _ h hr1 _ hbm
    · replace h := (if_pos c13).symm.trans h
      refine s_aload_n hX dL_law_609 rfl ?_
      refine s_iconst 0 hX dL_law_610 (by decide) ?_
      refine s_lald hX in01 dL_law_611 ?_
      refine s_iload hX dL_law_612 rfl ?_
      refine s_i2l hX dL_law_614 ?_
      refine s_lcmp hX dL_law_615 ?_
      refine s_if_eq (tgt := 621) hX dL_law_616 (by decide) (fun c12 => ?_) (fun c12 => ?_)
      · replace h := (if_pos c12).symm.trans h
        refine s_goto (tgt := 1771) hX dL_law_621 (by decide) ?_
        obtain ⟨v11, ev11, h⟩ := bd_some h
        refine s_iinc v11 hX dL_law_1771 rfl (by rw [ev11]; rfl) (by decide) ?_
        refine s_goto (tgt := 23) hX dL_law_1774 (by decide) ?_
        refine s_mask [true, true, true, true, true, false, false] ?_
        exact hrec _ _ h hr1 _ hbm
      · replace h := (if_neg c12).symm.trans h
        refine s_iconst 0 hX dL_law_619 (by decide) ?_
        exact absurd (rt1 h).symm (by rw [hr1]; decide)
  · replace h := (if_neg c14).symm.trans h
    refine s_iconst 0 hX dL_law_602 (by decide) ?_
    exact absurd (rt1 h).symm (by rw [hr1]; decide)
set_option maxHeartbeats 4000000 in
theorem k_law6 {X : sT} (hX : sX X cL_law RL 7 20 10830) (hlX : (sl X).stackTraces = false) (hRC : 603072 ≤ (sR X).cells ∧ 7186538 ≤ (sR X).slots) (hnc : sNc X) {b Ln : Nat} {xs : Nat → Int32} (hsc : sScr X b Ln xs) (hret : ∀ (cs : Nat × Nat) (σ : Mm) (pc : Nat) (L : List (Option Value)), (cs.1 ≤ 603072 ∧ cs.2 ≤ 7186538) → decode cL_law pc = .ok (.ireturn, 1) → sW X 7 cs σ pc L [.int 1]) {n : Nat} {rec : Mm × Int32 → Option Int32} (hrec : ∀ (s : Mm × Int32) (r : Int32), rec s = some r → r = 1 → ∀ cs, bnd n cs → sW X 7 cs s.1 23 [some (Value.ref b), some (.ref (sad X 0)), some (.ref (sad X 123)), some (.ref (sad X 170)), some (.int s.2), none, none] []) {cs : Nat × Nat} (hbn : bnd (n + 1) cs) {σ : Mm} {x4 r : Int32} (hr1 : r = 1) (h : u_law6 xs Ln rec σ x4 = some r) : sW X 7 cs σ 624 [some (Value.ref b), some (.ref (sad X 0)), some (.ref (sad X 123)), some (.ref (sad X 170)), some (.int x4), none, none] [] := by
  unfold u_law6 at h
  refine s_aload_n hX dL_law_624 rfl ?_
  refine s_aload_n hX dL_law_625 rfl ?_
  refine s_iload hX dL_law_626 rfl ?_
  refine s_iconst 1 hX dL_law_628 (by decide) ?_
  refine s_iadd hX dL_law_629 ?_
  obtain ⟨c1, h⟩ := gd_some h
  refine s_sld hX hsc c1 dL_law_630 ?_
  refine s_aload_n hX dL_law_631 rfl ?_
  refine s_iload hX dL_law_632 rfl ?_
  refine s_iconst 2 hX dL_law_634 (by decide) ?_
  refine s_iadd hX dL_law_635 ?_
  obtain ⟨c2, h⟩ := gd_some h
  refine s_sld hX hsc c2 dL_law_636 ?_
  refine s_aload_n hX dL_law_637 rfl ?_
  refine s_iload hX dL_law_638 rfl ?_
  refine s_iconst 3 hX dL_law_640 (by decide) ?_
  refine s_iadd hX dL_law_641 ?_
  obtain ⟨c3, h⟩ := gd_some h
  refine s_sld hX hsc c3 dL_law_642 ?_
  refine s_aload_n hX dL_law_643 rfl ?_
  obtain ⟨r4, σ5, hc, h⟩ := bn2_some h
  refine s_callSL _ hX (cL_instruction_ok (sl X) hlX hc) mw_127 (fun _ => rfl) (by decide) (Nat.le_of_ble_eq_true rfl) (bnd_ct hRC hbn) hnc dL_law_644 rfl ?_
  have hbm := bnd_step hbn
  generalize (cs.1 + 1, cs.2 + 6) = cs at hbm ⊢
  refine s_istore hX dL_law_647 (by decide) ?_
  refine s_aload_n hX dL_law_649 rfl ?_
  refine s_aload_n hX dL_law_650 rfl ?_
  refine s_iload hX dL_law_651 rfl ?_
  refine s_iconst 1 hX dL_law_653 (by decide) ?_
  refine s_iadd hX dL_law_654 ?_
  obtain ⟨c6, h⟩ := gd_some h
  refine s_sld hX hsc c6 dL_law_655 ?_
  refine s_aload_n hX dL_law_656 rfl ?_
  refine s_iload hX dL_law_657 rfl ?_
  refine s_iconst 2 hX dL_law_659 (by decide) ?_
  refine s_iadd hX dL_law_660 ?_
  obtain ⟨c7, h⟩ := gd_some h
  refine s_sld hX hsc c7 dL_law_661 ?_
  refine s_aload_n hX dL_law_662 rfl ?_
  refine s_iload hX dL_law_663 rfl ?_
  refine s_iconst 3 hX dL_law_665 (by decide) ?_
  refine s_iadd hX dL_law_666 ?_
  obtain ⟨c8, h⟩ := gd_some h
  refine s_sld hX hsc c8 dL_law_667 ?_
  obtain ⟨r9, σ10, hc, h⟩ := bn2_some h
  refine s_callVI _ hX (cX10_instruction_ok (sl X)  hc) SH_123 mv_RL_130_9 (fun _ => rfl) (by decide) (Nat.le_of_ble_eq_true rfl) (bnd_cs hRC hbm) dL_law_668 rfl ?_
  refine s_istore hX dL_law_671 (by decide) ?_
  refine s_aload_n hX dL_law_673 rfl ?_
  obtain ⟨r11, hc, h⟩ := bn_some h
  refine s_callVI _ hX (cX10_thrown_ok (sl X)  hc) SH_123 mv_RL_107_9 (fun _ => rfl) (by decide) (Nat.le_of_ble_eq_true rfl) (bnd_cs hRC hbm) dL_law_674 rfl ?_
  refine s_iload hX dL_law_677 rfl ?_
  refine s_ic_eq (tgt := 684) hX dL_law_679 (by decide) (fun c16 => ?_) (fun c16 => ?_)
  · replace h := (if_pos c16).symm.trans h
    refine s_iload hX dL_law_684 rfl ?_
    refine s_if_ne (tgt := 701) hX dL_law_686 (by decide) (fun c15 => ?_) (fun c15 => ?_)
    · replace h := (if_neg c15).symm.trans h
      refine s_goto (tgt := 1771) hX dL_law_701 (by decide) ?_
      obtain ⟨v12, ev12, h⟩ := bd_some h
      refine s_iinc v12 hX dL_law_1771 rfl (by rw [ev12]; rfl) (by decide) ?_
      refine s_goto (tgt := 23) hX dL_law_1774 (by decide) ?_
      refine s_mask [true, true, true, true, true, false, false] ?_
      exact hrec _ _ h hr1 _ hbm
    · replace h := (if_pos c15).symm.trans h
      refine s_aload_n hX dL_law_689 rfl ?_
      refine s_iconst 0 hX dL_law_690 (by decide) ?_
      refine s_lald hX in01 dL_law_691 ?_
      refine s_iload hX dL_law_692 rfl ?_
      refine s_i2l hX dL_law_694 ?_
      refine s_lcmp hX dL_law_695 ?_
      refine s_if_eq (tgt := 701) hX dL_law_696 (by decide) (fun c14 => ?_) (fun c14 => ?_)
      · replace h := (if_pos c14).symm.trans h
        refine s_goto (tgt := 1771) hX dL_law_701 (by decide) ?_
        obtain ⟨v13, ev13, h⟩ := bd_some h
        refine s_iinc v13 hX dL_law_1771 rfl (by rw [ev13]; rfl) (by decide) ?_
        refine s_goto (tgt := 23) hX dL_law_1774 (by decide) ?_
        refine s_mask [true, true, true, true, true, false, false] ?_
        exact hrec _ _ h hr1 _ hbm
      · replace h := (if_neg c14).symm.trans h
        refine s_iconst 0 hX dL_law_699 (by decide) ?_
        exact absurd (rt1 h).symm (by rw [hr1]; decide)
  · replace h := (if_neg c16).symm.trans h
    refine s_iconst 0 hX dL_law_682 (by decide) ?_
    exact absurd (rt1 h).symm (by rw [hr1]; decide)
set_option maxHeartbeats 4000000 in
theorem k_law7 {X : sT} (hX : sX X cL_law RL 7 20 10830) (hlX : (sl X).stackTraces = false) (hRC : 603072 ≤ (sR X).cells ∧ 7186538 ≤ (sR X).slots) (hnc : sNc X) {b Ln : Nat} {xs : Nat → Int32} (hsc : sScr X b Ln xs) (hret : ∀ (cs : Nat × Nat) (σ : Mm) (pc : Nat) (L : List (Option Value)), (cs.1 ≤ 603072 ∧ cs.2 ≤ 7186538) → decode cL_law pc = .ok (.ireturn, 1) → sW X 7 cs σ pc L [.int 1]) {n : Nat} {rec : Mm × Int32 → Option Int32} (hrec : ∀ (s : Mm × Int32) (r : Int32), rec s = some r → r = 1 → ∀ cs, bnd n cs → sW X 7 cs s.1 23 [some (Value.ref b), some (.ref (sad X 0)), some (.ref (sad X 123)), some (.ref (sad X 170)), some (.int s.2), none, none] []) {cs : Nat × Nat} (hbn : bnd (n + 1) cs) {σ : Mm} {x4 r : Int32} (hr1 : r = 1) (h : u_law7 xs Ln rec σ x4 = some r) : sW X 7 cs σ 704 [some (Value.ref b), some (.ref (sad X 0)), some (.ref (sad X 123)), some (.ref (sad X 170)), some (.int x4), none, none] [] := by
  unfold u_law7 at h
  refine s_aload_n hX dL_law_704 rfl ?_
  refine s_aload_n hX dL_law_705 rfl ?_
  refine s_iload hX dL_law_706 rfl ?_
  refine s_iconst 1 hX dL_law_708 (by decide) ?_
  refine s_iadd hX dL_law_709 ?_
  obtain ⟨c1, h⟩ := gd_some h
  refine s_sld hX hsc c1 dL_law_710 ?_
  refine s_aload_n hX dL_law_711 rfl ?_
  refine s_iload hX dL_law_712 rfl ?_
  refine s_iconst 2 hX dL_law_714 (by decide) ?_
  refine s_iadd hX dL_law_715 ?_
  obtain ⟨c2, h⟩ := gd_some h
  refine s_sld hX hsc c2 dL_law_716 ?_
  refine s_aload_n hX dL_law_717 rfl ?_
  obtain ⟨r3, σ4, hc, h⟩ := bn2_some h
  refine s_callSL _ hX (cL_block_ok (sl X) hlX hc) mw_131 (fun _ => rfl) (by decide) (Nat.le_of_ble_eq_true rfl) (bnd_ct hRC hbn) hnc dL_law_718 rfl ?_
  have hbm := bnd_step hbn
  generalize (cs.1 + 1, cs.2 + 6) = cs at hbm ⊢
  refine s_istore hX dL_law_721 (by decide) ?_
  refine s_aload_n hX dL_law_723 rfl ?_
  refine s_aload_n hX dL_law_724 rfl ?_
  refine s_iload hX dL_law_725 rfl ?_
  refine s_iconst 1 hX dL_law_727 (by decide) ?_
  refine s_iadd hX dL_law_728 ?_
  obtain ⟨c5, h⟩ := gd_some h
  refine s_sld hX hsc c5 dL_law_729 ?_
  refine s_aload_n hX dL_law_730 rfl ?_
  refine s_iload hX dL_law_731 rfl ?_
  refine s_iconst 2 hX dL_law_733 (by decide) ?_
  refine s_iadd hX dL_law_734 ?_
  obtain ⟨c6, h⟩ := gd_some h
  refine s_sld hX hsc c6 dL_law_735 ?_
  obtain ⟨r7, σ8, hc, h⟩ := bn2_some h
  refine s_callVI _ hX (cX10_block_ok (sl X)  hc) SH_123 mv_RL_133_9 (fun _ => rfl) (by decide) (Nat.le_of_ble_eq_true rfl) (bnd_cs hRC hbm) dL_law_736 rfl ?_
  refine s_istore hX dL_law_739 (by decide) ?_
  refine s_aload_n hX dL_law_741 rfl ?_
  obtain ⟨r9, hc, h⟩ := bn_some h
  refine s_callVI _ hX (cX10_thrown_ok (sl X)  hc) SH_123 mv_RL_107_9 (fun _ => rfl) (by decide) (Nat.le_of_ble_eq_true rfl) (bnd_cs hRC hbm) dL_law_742 rfl ?_
  refine s_iload hX dL_law_745 rfl ?_
  refine s_ic_eq (tgt := 752) hX dL_law_747 (by decide) (fun c14 => ?_) (fun c14 => ?_)
  · replace h := (if_pos c14).symm.trans h
    refine s_iload hX dL_law_752 rfl ?_
    refine s_if_ne (tgt := 769) hX dL_law_754 (by decide) (fun c13 => ?_) (fun c13 => ?_)
    · replace h := (if_neg c13).symm.trans h
      refine s_goto (tgt := 1771) hX dL_law_769 (by decide) ?_
      obtain ⟨v10, ev10, h⟩ := bd_some h
      refine s_iinc v10 hX dL_law_1771 rfl (by rw [ev10]; rfl) (by decide) ?_
      refine s_goto (tgt := 23) hX dL_law_1774 (by decide) ?_
      refine s_mask [true, true, true, true, true, false, false] ?_
      exact hrec _ _ h hr1 _ hbm
    · replace h := (if_pos c13).symm.trans h
      refine s_aload_n hX dL_law_757 rfl ?_
      refine s_iconst 0 hX dL_law_758 (by decide) ?_
      refine s_lald hX in01 dL_law_759 ?_
      refine s_iload hX dL_law_760 rfl ?_
      refine s_i2l hX dL_law_762 ?_
      refine s_lcmp hX dL_law_763 ?_
      refine s_if_eq (tgt := 769) hX dL_law_764 (by decide) (fun c12 => ?_) (fun c12 => ?_)
      · replace h := (if_pos c12).symm.trans h
        refine s_goto (tgt := 1771) hX dL_law_769 (by decide) ?_
        obtain ⟨v11, ev11, h⟩ := bd_some h
        refine s_iinc v11 hX dL_law_1771 rfl (by rw [ev11]; rfl) (by decide) ?_
        refine s_goto (tgt := 23) hX dL_law_1774 (by decide) ?_
        refine s_mask [true, true, true, true, true, false, false] ?_
        exact hrec _ _ h hr1 _ hbm
      · replace h := (if_neg c12).symm.trans h
        refine s_iconst 0 hX dL_law_767 (by decide) ?_
        exact absurd (rt1 h).symm (by rw [hr1]; decide)
  · replace h := (if_neg c14).symm.trans h
    refine s_iconst 0 hX dL_law_750 (by decide) ?_
    exact absurd (rt1 h).symm (by rw [hr1]; decide)
set_option maxHeartbeats 4000000 in
theorem k_law8 {X : sT} (hX : sX X cL_law RL 7 20 10830) (hlX : (sl X).stackTraces = false) (hRC : 603072 ≤ (sR X).cells ∧ 7186538 ≤ (sR X).slots) (hnc : sNc X) {b Ln : Nat} {xs : Nat → Int32} (hsc : sScr X b Ln xs) (hret : ∀ (cs : Nat × Nat) (σ : Mm) (pc : Nat) (L : List (Option Value)), (cs.1 ≤ 603072 ∧ cs.2 ≤ 7186538) → decode cL_law pc = .ok (.ireturn, 1) → sW X 7 cs σ pc L [.int 1]) {n : Nat} {rec : Mm × Int32 → Option Int32} (hrec : ∀ (s : Mm × Int32) (r : Int32), rec s = some r → r = 1 → ∀ cs, bnd n cs → sW X 7 cs s.1 23 [some (Value.ref b), some (.ref (sad X 0)), some (.ref (sad X 123)), some (.ref (sad X 170)), some (.int s.2), none, none] []) {cs : Nat × Nat} (hbn : bnd (n + 1) cs) {σ : Mm} {x4 r : Int32} (hr1 : r = 1) (h : u_law8 xs Ln rec σ x4 = some r) : sW X 7 cs σ 772 [some (Value.ref b), some (.ref (sad X 0)), some (.ref (sad X 123)), some (.ref (sad X 170)), some (.int x4), none, none] [] := by
  unfold u_law8 at h
  refine s_aload_n hX dL_law_772 rfl ?_
  refine s_aload_n hX dL_law_773 rfl ?_
  refine s_iload hX dL_law_774 rfl ?_
  refine s_iconst 1 hX dL_law_776 (by decide) ?_
  refine s_iadd hX dL_law_777 ?_
  obtain ⟨c1, h⟩ := gd_some h
  refine s_sld hX hsc c1 dL_law_778 ?_
  refine s_aload_n hX dL_law_779 rfl ?_
  refine s_iload hX dL_law_780 rfl ?_
  refine s_iconst 2 hX dL_law_782 (by decide) ?_
  refine s_iadd hX dL_law_783 ?_
  obtain ⟨c2, h⟩ := gd_some h
  refine s_sld hX hsc c2 dL_law_784 ?_
  refine s_aload_n hX dL_law_785 rfl ?_
  obtain ⟨r3, σ4, hc, h⟩ := bn2_some h
  refine s_callSL _ hX (cL_live_ok (sl X) hlX hc) mw_134 (fun _ => rfl) (by decide) (Nat.le_of_ble_eq_true rfl) (bnd_ct hRC hbn) hnc dL_law_786 rfl ?_
  have hbm := bnd_step hbn
  generalize (cs.1 + 1, cs.2 + 6) = cs at hbm ⊢
  refine s_istore hX dL_law_789 (by decide) ?_
  refine s_aload_n hX dL_law_791 rfl ?_
  refine s_aload_n hX dL_law_792 rfl ?_
  refine s_iload hX dL_law_793 rfl ?_
  refine s_iconst 1 hX dL_law_795 (by decide) ?_
  refine s_iadd hX dL_law_796 ?_
  obtain ⟨c5, h⟩ := gd_some h
  refine s_sld hX hsc c5 dL_law_797 ?_
  refine s_aload_n hX dL_law_798 rfl ?_
  refine s_iload hX dL_law_799 rfl ?_
  refine s_iconst 2 hX dL_law_801 (by decide) ?_
  refine s_iadd hX dL_law_802 ?_
  obtain ⟨c6, h⟩ := gd_some h
  refine s_sld hX hsc c6 dL_law_803 ?_
  obtain ⟨r7, σ8, hc, h⟩ := bn2_some h
  refine s_callVI _ hX (cX10_live_ok (sl X)  hc) SH_123 mv_RL_136_9 (fun _ => rfl) (by decide) (Nat.le_of_ble_eq_true rfl) (bnd_cs hRC hbm) dL_law_804 rfl ?_
  refine s_istore hX dL_law_807 (by decide) ?_
  refine s_aload_n hX dL_law_809 rfl ?_
  obtain ⟨r9, hc, h⟩ := bn_some h
  refine s_callVI _ hX (cX10_thrown_ok (sl X)  hc) SH_123 mv_RL_107_9 (fun _ => rfl) (by decide) (Nat.le_of_ble_eq_true rfl) (bnd_cs hRC hbm) dL_law_810 rfl ?_
  refine s_iload hX dL_law_813 rfl ?_
  refine s_ic_eq (tgt := 820) hX dL_law_815 (by decide) (fun c14 => ?_) (fun c14 => ?_)
  · replace h := (if_pos c14).symm.trans h
    refine s_iload hX dL_law_820 rfl ?_
    refine s_if_ne (tgt := 837) hX dL_law_822 (by decide) (fun c13 => ?_) (fun c13 => ?_)
    · replace h := (if_neg c13).symm.trans h
      refine s_goto (tgt := 1771) hX dL_law_837 (by decide) ?_
      obtain ⟨v10, ev10, h⟩ := bd_some h
      refine s_iinc v10 hX dL_law_1771 rfl (by rw [ev10]; rfl) (by decide) ?_
      refine s_goto (tgt := 23) hX dL_law_1774 (by decide) ?_
      refine s_mask [true, true, true, true, true, false, false] ?_
      exact hrec _ _ h hr1 _ hbm
    · replace h := (if_pos c13).symm.trans h
      refine s_aload_n hX dL_law_825 rfl ?_
      refine s_iconst 0 hX dL_law_826 (by decide) ?_
      refine s_lald hX in01 dL_law_827 ?_
      refine s_iload hX dL_law_828 rfl ?_
      refine s_i2l hX dL_law_830 ?_
      refine s_lcmp hX dL_law_831 ?_
      refine s_if_eq (tgt := 837) hX dL_law_832 (by decide) (fun c12 => ?_) (fun c12 => ?_)
      · replace h := (if_pos c12).symm.trans h
        refine s_goto (tgt := 1771) hX dL_law_837 (by decide) ?_
        obtain ⟨v11, ev11, h⟩ := bd_some h
        refine s_iinc v11 hX dL_law_1771 rfl (by rw [ev11]; rfl) (by decide) ?_
        refine s_goto (tgt := 23) hX dL_law_1774 (by decide) ?_
        refine s_mask [true, true, true, true, true, false, false] ?_
        exact hrec _ _ h hr1 _ hbm
      · replace h := (if_neg c12).symm.trans h
        refine s_iconst 0 hX dL_law_835 (by decide) ?_
        exact absurd (rt1 h).symm (by rw [hr1]; decide)
  · replace h := (if_neg c14).symm.trans h
    refine s_iconst 0 hX dL_law_818 (by decide) ?_
    exact absurd (rt1 h).symm (by rw [hr1]; decide)
set_option maxHeartbeats 4000000 in
theorem k_law9 {X : sT} (hX : sX X cL_law RL 7 20 10830) (hlX : (sl X).stackTraces = false) (hRC : 603072 ≤ (sR X).cells ∧ 7186538 ≤ (sR X).slots) (hnc : sNc X) {b Ln : Nat} {xs : Nat → Int32} (hsc : sScr X b Ln xs) (hret : ∀ (cs : Nat × Nat) (σ : Mm) (pc : Nat) (L : List (Option Value)), (cs.1 ≤ 603072 ∧ cs.2 ≤ 7186538) → decode cL_law pc = .ok (.ireturn, 1) → sW X 7 cs σ pc L [.int 1]) {n : Nat} {rec : Mm × Int32 → Option Int32} (hrec : ∀ (s : Mm × Int32) (r : Int32), rec s = some r → r = 1 → ∀ cs, bnd n cs → sW X 7 cs s.1 23 [some (Value.ref b), some (.ref (sad X 0)), some (.ref (sad X 123)), some (.ref (sad X 170)), some (.int s.2), none, none] []) {cs : Nat × Nat} (hbn : bnd (n + 1) cs) {σ : Mm} {x4 r : Int32} (hr1 : r = 1) (h : u_law9 xs Ln rec σ x4 = some r) : sW X 7 cs σ 840 [some (Value.ref b), some (.ref (sad X 0)), some (.ref (sad X 123)), some (.ref (sad X 170)), some (.int x4), none, none] [] := by
  unfold u_law9 at h
  refine s_aload_n hX dL_law_840 rfl ?_
  refine s_aload_n hX dL_law_841 rfl ?_
  refine s_iload hX dL_law_842 rfl ?_
  refine s_iconst 1 hX dL_law_844 (by decide) ?_
  refine s_iadd hX dL_law_845 ?_
  obtain ⟨c1, h⟩ := gd_some h
  refine s_sld hX hsc c1 dL_law_846 ?_
  refine s_aload_n hX dL_law_847 rfl ?_
  obtain ⟨r2, σ3, hc, h⟩ := bn2_some h
  refine s_callSL _ hX (cL_conflicts_ok (sl X) hlX hc) mw_137 (fun _ => rfl) (by decide) (Nat.le_of_ble_eq_true rfl) (bnd_ct hRC hbn) hnc dL_law_848 rfl ?_
  have hbm := bnd_step hbn
  generalize (cs.1 + 1, cs.2 + 6) = cs at hbm ⊢
  refine s_istore hX dL_law_851 (by decide) ?_
  refine s_aload_n hX dL_law_853 rfl ?_
  refine s_aload_n hX dL_law_854 rfl ?_
  refine s_iload hX dL_law_855 rfl ?_
  refine s_iconst 1 hX dL_law_857 (by decide) ?_
  refine s_iadd hX dL_law_858 ?_
  obtain ⟨c4, h⟩ := gd_some h
  refine s_sld hX hsc c4 dL_law_859 ?_
  obtain ⟨r5, σ6, hc, h⟩ := bn2_some h
  refine s_callVI _ hX (cX10_conflicts_ok (sl X)  hc) SH_123 mv_RL_139_9 (fun _ => rfl) (by decide) (Nat.le_of_ble_eq_true rfl) (bnd_cs hRC hbm) dL_law_860 rfl ?_
  refine s_istore hX dL_law_863 (by decide) ?_
  refine s_aload_n hX dL_law_865 rfl ?_
  obtain ⟨r7, hc, h⟩ := bn_some h
  refine s_callVI _ hX (cX10_thrown_ok (sl X)  hc) SH_123 mv_RL_107_9 (fun _ => rfl) (by decide) (Nat.le_of_ble_eq_true rfl) (bnd_cs hRC hbm) dL_law_866 rfl ?_
  refine s_iload hX dL_law_869 rfl ?_
  refine s_ic_eq (tgt := 876) hX dL_law_871 (by decide) (fun c12 => ?_) (fun c12 => ?_)
  · replace h := (if_pos c12).symm.trans h
    refine s_iload hX dL_law_876 rfl ?_
    refine s_if_ne (tgt := 893) hX dL_law_878 (by decide) (fun c11 => ?_) (fun c11 => ?_)
    · replace h := (if_neg c11).symm.trans h
      refine s_goto (tgt := 1771) hX dL_law_893 (by decide) ?_
      obtain ⟨v8, ev8, h⟩ := bd_some h
      refine s_iinc v8 hX dL_law_1771 rfl (by rw [ev8]; rfl) (by decide) ?_
      refine s_goto (tgt := 23) hX dL_law_1774 (by decide) ?_
      refine s_mask [true, true, true, true, true, false, false] ?_
      exact hrec _ _ h hr1 _ hbm
    · replace h := (if_pos c11).symm.trans h
      refine s_aload_n hX dL_law_881 rfl ?_
      refine s_iconst 0 hX dL_law_882 (by decide) ?_
      refine s_lald hX in01 dL_law_883 ?_
      refine s_iload hX dL_law_884 rfl ?_
      refine s_i2l hX dL_law_886 ?_
      refine s_lcmp hX dL_law_887 ?_
      refine s_if_eq (tgt := 893) hX dL_law_888 (by decide) (fun c10 => ?_) (fun c10 => ?_)
      · replace h := (if_pos c10).symm.trans h
        refine s_goto (tgt := 1771) hX dL_law_893 (by decide) ?_
        obtain ⟨v9, ev9, h⟩ := bd_some h
        refine s_iinc v9 hX dL_law_1771 rfl (by rw [ev9]; rfl) (by decide) ?_
        refine s_goto (tgt := 23) hX dL_law_1774 (by decide) ?_
        refine s_mask [true, true, true, true, true, false, false] ?_
        exact hrec _ _ h hr1 _ hbm
      · replace h := (if_neg c10).symm.trans h
        refine s_iconst 0 hX dL_law_891 (by decide) ?_
        exact absurd (rt1 h).symm (by rw [hr1]; decide)
  · replace h := (if_neg c12).symm.trans h
    refine s_iconst 0 hX dL_law_874 (by decide) ?_
    exact absurd (rt1 h).symm (by rw [hr1]; decide)
set_option maxHeartbeats 4000000 in
theorem k_law10 {X : sT} (hX : sX X cL_law RL 7 20 10830) (hlX : (sl X).stackTraces = false) (hRC : 603072 ≤ (sR X).cells ∧ 7186538 ≤ (sR X).slots) (hnc : sNc X) {b Ln : Nat} {xs : Nat → Int32} (hsc : sScr X b Ln xs) (hret : ∀ (cs : Nat × Nat) (σ : Mm) (pc : Nat) (L : List (Option Value)), (cs.1 ≤ 603072 ∧ cs.2 ≤ 7186538) → decode cL_law pc = .ok (.ireturn, 1) → sW X 7 cs σ pc L [.int 1]) {n : Nat} {rec : Mm × Int32 → Option Int32} (hrec : ∀ (s : Mm × Int32) (r : Int32), rec s = some r → r = 1 → ∀ cs, bnd n cs → sW X 7 cs s.1 23 [some (Value.ref b), some (.ref (sad X 0)), some (.ref (sad X 123)), some (.ref (sad X 170)), some (.int s.2), none, none] []) {cs : Nat × Nat} (hbn : bnd (n + 1) cs) {σ : Mm} {x4 r : Int32} (hr1 : r = 1) (h : u_law10 xs Ln rec σ x4 = some r) : sW X 7 cs σ 896 [some (Value.ref b), some (.ref (sad X 0)), some (.ref (sad X 123)), some (.ref (sad X 170)), some (.int x4), none, none] [] := by
  unfold u_law10 at h
  refine s_aload_n hX dL_law_896 rfl ?_
  obtain ⟨r1, σ2, hc, h⟩ := bn2_some h
  refine s_callVI _ hX (cX9_pressure_ok (sl X)  hc) SH_0 mv_RL_140_8 (fun _ => rfl) (by decide) (Nat.le_of_ble_eq_true rfl) (bnd_cs hRC hbn) dL_law_897 rfl ?_
  refine s_aload_n hX dL_law_900 rfl ?_
  obtain ⟨r3, σ4, hc, h⟩ := bn2_some h
  refine s_callVI _ hX (cX10_pressure_ok (sl X)  hc) SH_123 mv_RL_143_9 (fun _ => rfl) (by decide) (Nat.le_of_ble_eq_true rfl) (bnd_cs hRC hbn) dL_law_901 rfl ?_
  refine s_ic_eq (tgt := 1771) hX dL_law_904 (by decide) (fun c6 => ?_) (fun c6 => ?_)
  · replace h := (if_pos c6).symm.trans h
    obtain ⟨v5, ev5, h⟩ := bd_some h
    refine s_iinc v5 hX dL_law_1771 rfl (by rw [ev5]; rfl) (by decide) ?_
    refine s_goto (tgt := 23) hX dL_law_1774 (by decide) ?_
    refine s_mask [true, true, true, true, true, false, false] ?_
    exact hrec _ _ h hr1 _ (bnd_less hbn)
  · replace h := (if_neg c6).symm.trans h
    refine s_iconst 0 hX dL_law_907 (by decide) ?_
    exact absurd (rt1 h).symm (by rw [hr1]; decide)
set_option maxHeartbeats 4000000 in
theorem k_law11 {X : sT} (hX : sX X cL_law RL 7 20 10830) (hlX : (sl X).stackTraces = false) (hRC : 603072 ≤ (sR X).cells ∧ 7186538 ≤ (sR X).slots) (hnc : sNc X) {b Ln : Nat} {xs : Nat → Int32} (hsc : sScr X b Ln xs) (hret : ∀ (cs : Nat × Nat) (σ : Mm) (pc : Nat) (L : List (Option Value)), (cs.1 ≤ 603072 ∧ cs.2 ≤ 7186538) → decode cL_law pc = .ok (.ireturn, 1) → sW X 7 cs σ pc L [.int 1]) {n : Nat} {rec : Mm × Int32 → Option Int32} (hrec : ∀ (s : Mm × Int32) (r : Int32), rec s = some r → r = 1 → ∀ cs, bnd n cs → sW X 7 cs s.1 23 [some (Value.ref b), some (.ref (sad X 0)), some (.ref (sad X 123)), some (.ref (sad X 170)), some (.int s.2), none, none] []) {cs : Nat × Nat} (hbn : bnd (n + 1) cs) {σ : Mm} {x4 r : Int32} (hr1 : r = 1) (h : u_law11 xs Ln rec σ x4 = some r) : sW X 7 cs σ 909 [some (Value.ref b), some (.ref (sad X 0)), some (.ref (sad X 123)), some (.ref (sad X 170)), some (.int x4), none, none] [] := by
  unfold u_law11 at h
  refine s_aload_n hX dL_law_909 rfl ?_
  obtain ⟨r1, σ2, hc, h⟩ := bn2_some h
  refine s_callVI _ hX (cX9_loops_ok (sl X)  hc) SH_0 mv_RL_144_8 (fun _ => rfl) (by decide) (Nat.le_of_ble_eq_true rfl) (bnd_cs hRC hbn) dL_law_910 rfl ?_
  refine s_aload_n hX dL_law_913 rfl ?_
  obtain ⟨r3, σ4, hc, h⟩ := bn2_some h
  refine s_callVI _ hX (cX10_loops_ok (sl X)  hc) SH_123 mv_RL_147_9 (fun _ => rfl) (by decide) (Nat.le_of_ble_eq_true rfl) (bnd_cs hRC hbn) dL_law_914 rfl ?_
  refine s_ic_eq (tgt := 1771) hX dL_law_917 (by decide) (fun c6 => ?_) (fun c6 => ?_)
  · replace h := (if_pos c6).symm.trans h
    obtain ⟨v5, ev5, h⟩ := bd_some h
    refine s_iinc v5 hX dL_law_1771 rfl (by rw [ev5]; rfl) (by decide) ?_
    refine s_goto (tgt := 23) hX dL_law_1774 (by decide) ?_
    refine s_mask [true, true, true, true, true, false, false] ?_
    exact hrec _ _ h hr1 _ (bnd_less hbn)
  · replace h := (if_neg c6).symm.trans h
    refine s_iconst 0 hX dL_law_920 (by decide) ?_
    exact absurd (rt1 h).symm (by rw [hr1]; decide)
set_option maxHeartbeats 4000000 in
theorem k_law12 {X : sT} (hX : sX X cL_law RL 7 20 10830) (hlX : (sl X).stackTraces = false) (hRC : 603072 ≤ (sR X).cells ∧ 7186538 ≤ (sR X).slots) (hnc : sNc X) {b Ln : Nat} {xs : Nat → Int32} (hsc : sScr X b Ln xs) (hret : ∀ (cs : Nat × Nat) (σ : Mm) (pc : Nat) (L : List (Option Value)), (cs.1 ≤ 603072 ∧ cs.2 ≤ 7186538) → decode cL_law pc = .ok (.ireturn, 1) → sW X 7 cs σ pc L [.int 1]) {n : Nat} {rec : Mm × Int32 → Option Int32} (hrec : ∀ (s : Mm × Int32) (r : Int32), rec s = some r → r = 1 → ∀ cs, bnd n cs → sW X 7 cs s.1 23 [some (Value.ref b), some (.ref (sad X 0)), some (.ref (sad X 123)), some (.ref (sad X 170)), some (.int s.2), none, none] []) {cs : Nat × Nat} (hbn : bnd (n + 1) cs) {σ : Mm} {x4 r : Int32} (hr1 : r = 1) (h : u_law12 xs Ln rec σ x4 = some r) : sW X 7 cs σ 922 [some (Value.ref b), some (.ref (sad X 0)), some (.ref (sad X 123)), some (.ref (sad X 170)), some (.int x4), none, none] [] := by
  unfold u_law12 at h
  refine s_aload_n hX dL_law_922 rfl ?_
  refine s_aload_n hX dL_law_923 rfl ?_
  refine s_iload hX dL_law_924 rfl ?_
  refine s_iconst 1 hX dL_law_926 (by decide) ?_
  refine s_iadd hX dL_law_927 ?_
  obtain ⟨c1, h⟩ := gd_some h
  refine s_sld hX hsc c1 dL_law_928 ?_
  refine s_aload_n hX dL_law_929 rfl ?_
  refine s_iload hX dL_law_930 rfl ?_
  refine s_iconst 2 hX dL_law_932 (by decide) ?_
  refine s_iadd hX dL_law_933 ?_
  obtain ⟨c2, h⟩ := gd_some h
  refine s_sld hX hsc c2 dL_law_934 ?_
  refine s_aload_n hX dL_law_935 rfl ?_
  obtain ⟨r3, σ4, hc, h⟩ := bn2_some h
  refine s_callSL _ hX (cL_loop_ok (sl X) hlX hc) mw_148 (fun _ => rfl) (by decide) (Nat.le_of_ble_eq_true rfl) (bnd_ct hRC hbn) hnc dL_law_936 rfl ?_
  have hbm := bnd_step hbn
  generalize (cs.1 + 1, cs.2 + 6) = cs at hbm ⊢
  refine s_istore hX dL_law_939 (by decide) ?_
  refine s_aload_n hX dL_law_941 rfl ?_
  refine s_aload_n hX dL_law_942 rfl ?_
  refine s_iload hX dL_law_943 rfl ?_
  refine s_iconst 1 hX dL_law_945 (by decide) ?_
  refine s_iadd hX dL_law_946 ?_
  obtain ⟨c5, h⟩ := gd_some h
  refine s_sld hX hsc c5 dL_law_947 ?_
  refine s_aload_n hX dL_law_948 rfl ?_
  refine s_iload hX dL_law_949 rfl ?_
  refine s_iconst 2 hX dL_law_951 (by decide) ?_
  refine s_iadd hX dL_law_952 ?_
  obtain ⟨c6, h⟩ := gd_some h
  refine s_sld hX hsc c6 dL_law_953 ?_
  obtain ⟨r7, σ8, hc, h⟩ := bn2_some h
  refine s_callVI _ hX (cX10_loop_ok (sl X)  hc) SH_123 mv_RL_150_9 (fun _ => rfl) (by decide) (Nat.le_of_ble_eq_true rfl) (bnd_cs hRC hbm) dL_law_954 rfl ?_
  refine s_istore hX dL_law_957 (by decide) ?_
  refine s_aload_n hX dL_law_959 rfl ?_
  obtain ⟨r9, hc, h⟩ := bn_some h
  refine s_callVI _ hX (cX10_thrown_ok (sl X)  hc) SH_123 mv_RL_107_9 (fun _ => rfl) (by decide) (Nat.le_of_ble_eq_true rfl) (bnd_cs hRC hbm) dL_law_960 rfl ?_
  refine s_iload hX dL_law_963 rfl ?_
  refine s_ic_eq (tgt := 970) hX dL_law_965 (by decide) (fun c14 => ?_) (fun c14 => ?_)
  · replace h := (if_pos c14).symm.trans h
    refine s_iload hX dL_law_970 rfl ?_
    refine s_if_ne (tgt := 987) hX dL_law_972 (by decide) (fun c13 => ?_) (fun c13 => ?_)
    · replace h := (if_neg c13).symm.trans h
      refine s_goto (tgt := 1771) hX dL_law_987 (by decide) ?_
      obtain ⟨v10, ev10, h⟩ := bd_some h
      refine s_iinc v10 hX dL_law_1771 rfl (by rw [ev10]; rfl) (by decide) ?_
      refine s_goto (tgt := 23) hX dL_law_1774 (by decide) ?_
      refine s_mask [true, true, true, true, true, false, false] ?_
      exact hrec _ _ h hr1 _ hbm
    · replace h := (if_pos c13).symm.trans h
      refine s_aload_n hX dL_law_975 rfl ?_
      refine s_iconst 0 hX dL_law_976 (by decide) ?_
      refine s_lald hX in01 dL_law_977 ?_
      refine s_iload hX dL_law_978 rfl ?_
      refine s_i2l hX dL_law_980 ?_
      refine s_lcmp hX dL_law_981 ?_
      refine s_if_eq (tgt := 987) hX dL_law_982 (by decide) (fun c12 => ?_) (fun c12 => ?_)
      · replace h := (if_pos c12).symm.trans h
        refine s_goto (tgt := 1771) hX dL_law_987 (by decide) ?_
        obtain ⟨v11, ev11, h⟩ := bd_some h
        refine s_iinc v11 hX dL_law_1771 rfl (by rw [ev11]; rfl) (by decide) ?_
        refine s_goto (tgt := 23) hX dL_law_1774 (by decide) ?_
        refine s_mask [true, true, true, true, true, false, false] ?_
        exact hrec _ _ h hr1 _ hbm
      · replace h := (if_neg c12).symm.trans h
        refine s_iconst 0 hX dL_law_985 (by decide) ?_
        exact absurd (rt1 h).symm (by rw [hr1]; decide)
  · replace h := (if_neg c14).symm.trans h
    refine s_iconst 0 hX dL_law_968 (by decide) ?_
    exact absurd (rt1 h).symm (by rw [hr1]; decide)
set_option maxHeartbeats 4000000 in
theorem k_law13 {X : sT} (hX : sX X cL_law RL 7 20 10830) (hlX : (sl X).stackTraces = false) (hRC : 603072 ≤ (sR X).cells ∧ 7186538 ≤ (sR X).slots) (hnc : sNc X) {b Ln : Nat} {xs : Nat → Int32} (hsc : sScr X b Ln xs) (hret : ∀ (cs : Nat × Nat) (σ : Mm) (pc : Nat) (L : List (Option Value)), (cs.1 ≤ 603072 ∧ cs.2 ≤ 7186538) → decode cL_law pc = .ok (.ireturn, 1) → sW X 7 cs σ pc L [.int 1]) {n : Nat} {rec : Mm × Int32 → Option Int32} (hrec : ∀ (s : Mm × Int32) (r : Int32), rec s = some r → r = 1 → ∀ cs, bnd n cs → sW X 7 cs s.1 23 [some (Value.ref b), some (.ref (sad X 0)), some (.ref (sad X 123)), some (.ref (sad X 170)), some (.int s.2), none, none] []) {cs : Nat × Nat} (hbn : bnd (n + 1) cs) {σ : Mm} {x4 r : Int32} (hr1 : r = 1) (h : u_law13 xs Ln rec σ x4 = some r) : sW X 7 cs σ 990 [some (Value.ref b), some (.ref (sad X 0)), some (.ref (sad X 123)), some (.ref (sad X 170)), some (.int x4), none, none] [] := by
  unfold u_law13 at h
  refine s_aload_n hX dL_law_990 rfl ?_
  refine s_aload_n hX dL_law_991 rfl ?_
  refine s_iload hX dL_law_992 rfl ?_
  refine s_iconst 1 hX dL_law_994 (by decide) ?_
  refine s_iadd hX dL_law_995 ?_
  obtain ⟨c1, h⟩ := gd_some h
  refine s_sld hX hsc c1 dL_law_996 ?_
  refine s_aload_n hX dL_law_997 rfl ?_
  refine s_iload hX dL_law_998 rfl ?_
  refine s_iconst 2 hX dL_law_1000 (by decide) ?_
  refine s_iadd hX dL_law_1001 ?_
  obtain ⟨c2, h⟩ := gd_some h
  refine s_sld hX hsc c2 dL_law_1002 ?_
  refine jn_use (fun j => ∀ (v3 : Int32), j v3 = some r → sW X 7 cs σ 1011 [some (Value.ref b), some (.ref (sad X 0)), some (.ref (sad X 123)), some (.ref (sad X 170)), some (.int x4), none, none] [.int v3, .int (xs (x4 + 1).toNatClampNeg), .ref (sad X 0)]) h ?_ ?_
  · intro v3 h
    refine s_aload_n hX dL_law_1011 rfl ?_
    obtain ⟨r5, σ6, hc, h⟩ := bn2_some h
    refine s_callSL _ hX (cL_cost_ok (sl X) hlX hc) mw_151 (fun _ => rfl) (by decide) (Nat.le_of_ble_eq_true rfl) (bnd_ct hRC hbn) hnc dL_law_1012 rfl ?_
    have hbm := bnd_step hbn
    generalize (cs.1 + 1, cs.2 + 6) = cs at hbm ⊢
    refine s_istore hX dL_law_1015 (by decide) ?_
    refine s_aload_n hX dL_law_1017 rfl ?_
    refine s_aload_n hX dL_law_1018 rfl ?_
    refine s_iload hX dL_law_1019 rfl ?_
    refine s_iconst 1 hX dL_law_1021 (by decide) ?_
    refine s_iadd hX dL_law_1022 ?_
    obtain ⟨c7, h⟩ := gd_some h
    refine s_sld hX hsc c7 dL_law_1023 ?_
    refine s_aload_n hX dL_law_1024 rfl ?_
    refine s_iload hX dL_law_1025 rfl ?_
    refine s_iconst 2 hX dL_law_1027 (by decide) ?_
    refine s_iadd hX dL_law_1028 ?_
    obtain ⟨c8, h⟩ := gd_some h
    refine s_sld hX hsc c8 dL_law_1029 ?_
    refine jn_use (fun j => ∀ (v9 : Int32), j v9 = some r → sW X 7 cs σ6 1038 [some (Value.ref b), some (.ref (sad X 0)), some (.ref (sad X 123)), some (.ref (sad X 170)), some (.int x4), some (.int r5), none] [.int v9, .int (xs (x4 + 1).toNatClampNeg), .ref (sad X 123)]) h ?_ ?_
    · intro v9 h
      obtain ⟨r11, σ12, hc, h⟩ := bn2_some h
      refine s_callVI _ hX (cX10_cost_ok (sl X)  hc) SH_123 mv_RL_154_9 (fun _ => rfl) (by decide) (Nat.le_of_ble_eq_true rfl) (bnd_cs hRC hbm) dL_law_1038 rfl ?_
      refine s_istore hX dL_law_1041 (by decide) ?_
      refine s_aload_n hX dL_law_1043 rfl ?_
      obtain ⟨r13, hc, h⟩ := bn_some h
      refine s_callVI _ hX (cX10_thrown_ok (sl X)  hc) SH_123 mv_RL_107_9 (fun _ => rfl) (by decide) (Nat.le_of_ble_eq_true rfl) (bnd_cs hRC hbm) dL_law_1044 rfl ?_
      refine s_iload hX dL_law_1047 rfl ?_
      refine s_ic_eq (tgt := 1054) hX dL_law_1049 (by decide) (fun c18 => ?_) (fun c18 => ?_)
      · replace h := (if_pos c18).symm.trans h
        refine s_iload hX dL_law_1054 rfl ?_
        refine s_if_ne (tgt := 1071) hX dL_law_1056 (by decide) (fun c17 => ?_) (fun c17 => ?_)
        · replace h := (if_neg c17).symm.trans h
          refine s_goto (tgt := 1771) hX dL_law_1071 (by decide) ?_
          obtain ⟨v14, ev14, h⟩ := bd_some h
          refine s_iinc v14 hX dL_law_1771 rfl (by rw [ev14]; rfl) (by decide) ?_
          refine s_goto (tgt := 23) hX dL_law_1774 (by decide) ?_
          refine s_mask [true, true, true, true, true, false, false] ?_
          exact hrec _ _ h hr1 _ hbm
        · replace h := (if_pos c17).symm.trans h
          refine s_aload_n hX dL_law_1059 rfl ?_
          refine s_iconst 0 hX dL_law_1060 (by decide) ?_
          refine s_lald hX in01 dL_law_1061 ?_
          refine s_iload hX dL_law_1062 rfl ?_
          refine s_i2l hX dL_law_1064 ?_
          refine s_lcmp hX dL_law_1065 ?_
          refine s_if_eq (tgt := 1071) hX dL_law_1066 (by decide) (fun c16 => ?_) (fun c16 => ?_)
          · replace h := (if_pos c16).symm.trans h
            refine s_goto (tgt := 1771) hX dL_law_1071 (by decide) ?_
            obtain ⟨v15, ev15, h⟩ := bd_some h
            refine s_iinc v15 hX dL_law_1771 rfl (by rw [ev15]; rfl) (by decide) ?_
            refine s_goto (tgt := 23) hX dL_law_1774 (by decide) ?_
            refine s_mask [true, true, true, true, true, false, false] ?_
            exact hrec _ _ h hr1 _ hbm
          · replace h := (if_neg c16).symm.trans h
            refine s_iconst 0 hX dL_law_1069 (by decide) ?_
            exact absurd (rt1 h).symm (by rw [hr1]; decide)
      · replace h := (if_neg c18).symm.trans h
        refine s_iconst 0 hX dL_law_1052 (by decide) ?_
        exact absurd (rt1 h).symm (by rw [hr1]; decide)
    · intro j10 hj10 h
      refine s_if_eq (tgt := 1037) hX dL_law_1030 (by decide) (fun c19 => ?_) (fun c19 => ?_)
      · replace h := (if_pos c19).symm.trans h
        refine s_iconst 0 hX dL_law_1037 (by decide) ?_
        refine s_mask [true, true, true, true, true, true, false] ?_
        exact hj10 _ h
      · replace h := (if_neg c19).symm.trans h
        refine s_iconst 1 hX dL_law_1033 (by decide) ?_
        refine s_goto (tgt := 1038) hX dL_law_1034 (by decide) ?_
        refine s_mask [true, true, true, true, true, true, false] ?_
        exact hj10 _ h
  · intro j4 hj4 h
    refine s_if_eq (tgt := 1010) hX dL_law_1003 (by decide) (fun c20 => ?_) (fun c20 => ?_)
    · replace h := (if_pos c20).symm.trans h
      refine s_iconst 0 hX dL_law_1010 (by decide) ?_
      refine s_mask [true, true, true, true, true, false, false] ?_
      exact hj4 _ h
    · replace h := (if_neg c20).symm.trans h
      refine s_iconst 1 hX dL_law_1006 (by decide) ?_
      refine s_goto (tgt := 1011) hX dL_law_1007 (by decide) ?_
      refine s_mask [true, true, true, true, true, false, false] ?_
      exact hj4 _ h
set_option maxHeartbeats 4000000 in
theorem k_law14 {X : sT} (hX : sX X cL_law RL 7 20 10830) (hlX : (sl X).stackTraces = false) (hRC : 603072 ≤ (sR X).cells ∧ 7186538 ≤ (sR X).slots) (hnc : sNc X) {b Ln : Nat} {xs : Nat → Int32} (hsc : sScr X b Ln xs) (hret : ∀ (cs : Nat × Nat) (σ : Mm) (pc : Nat) (L : List (Option Value)), (cs.1 ≤ 603072 ∧ cs.2 ≤ 7186538) → decode cL_law pc = .ok (.ireturn, 1) → sW X 7 cs σ pc L [.int 1]) {n : Nat} {rec : Mm × Int32 → Option Int32} (hrec : ∀ (s : Mm × Int32) (r : Int32), rec s = some r → r = 1 → ∀ cs, bnd n cs → sW X 7 cs s.1 23 [some (Value.ref b), some (.ref (sad X 0)), some (.ref (sad X 123)), some (.ref (sad X 170)), some (.int s.2), none, none] []) {cs : Nat × Nat} (hbn : bnd (n + 1) cs) {σ : Mm} {x4 r : Int32} (hr1 : r = 1) (h : u_law14 xs Ln rec σ x4 = some r) : sW X 7 cs σ 1074 [some (Value.ref b), some (.ref (sad X 0)), some (.ref (sad X 123)), some (.ref (sad X 170)), some (.int x4), none, none] [] := by
  unfold u_law14 at h
  refine s_aload_n hX dL_law_1074 rfl ?_
  refine s_aload_n hX dL_law_1075 rfl ?_
  refine s_iload hX dL_law_1076 rfl ?_
  refine s_iconst 1 hX dL_law_1078 (by decide) ?_
  refine s_iadd hX dL_law_1079 ?_
  obtain ⟨c1, h⟩ := gd_some h
  refine s_sld hX hsc c1 dL_law_1080 ?_
  refine s_aload_n hX dL_law_1081 rfl ?_
  refine s_iload hX dL_law_1082 rfl ?_
  refine s_iconst 2 hX dL_law_1084 (by decide) ?_
  refine s_iadd hX dL_law_1085 ?_
  obtain ⟨c2, h⟩ := gd_some h
  refine s_sld hX hsc c2 dL_law_1086 ?_
  refine jn_use (fun j => ∀ (v3 : Int32), j v3 = some r → sW X 7 cs σ 1095 [some (Value.ref b), some (.ref (sad X 0)), some (.ref (sad X 123)), some (.ref (sad X 170)), some (.int x4), none, none] [.int v3, .int (xs (x4 + 1).toNatClampNeg), .ref (sad X 0)]) h ?_ ?_
  · intro v3 h
    refine s_aload_n hX dL_law_1095 rfl ?_
    obtain ⟨r5, σ6, hc, h⟩ := bn2_some h
    refine s_callSL _ hX (cL_plan_ok (sl X) hlX hc) mw_155 (fun _ => rfl) (by decide) (Nat.le_of_ble_eq_true rfl) (bnd_ct hRC hbn) hnc dL_law_1096 rfl ?_
    have hbm := bnd_step hbn
    generalize (cs.1 + 1, cs.2 + 6) = cs at hbm ⊢
    refine s_istore hX dL_law_1099 (by decide) ?_
    refine s_aload_n hX dL_law_1101 rfl ?_
    refine s_aload_n hX dL_law_1102 rfl ?_
    refine s_iload hX dL_law_1103 rfl ?_
    refine s_iconst 1 hX dL_law_1105 (by decide) ?_
    refine s_iadd hX dL_law_1106 ?_
    obtain ⟨c7, h⟩ := gd_some h
    refine s_sld hX hsc c7 dL_law_1107 ?_
    refine s_aload_n hX dL_law_1108 rfl ?_
    refine s_iload hX dL_law_1109 rfl ?_
    refine s_iconst 2 hX dL_law_1111 (by decide) ?_
    refine s_iadd hX dL_law_1112 ?_
    obtain ⟨c8, h⟩ := gd_some h
    refine s_sld hX hsc c8 dL_law_1113 ?_
    refine jn_use (fun j => ∀ (v9 : Int32), j v9 = some r → sW X 7 cs σ6 1122 [some (Value.ref b), some (.ref (sad X 0)), some (.ref (sad X 123)), some (.ref (sad X 170)), some (.int x4), some (.int r5), none] [.int v9, .int (xs (x4 + 1).toNatClampNeg), .ref (sad X 123)]) h ?_ ?_
    · intro v9 h
      obtain ⟨r11, σ12, hc, h⟩ := bn2_some h
      refine s_callVI _ hX (cX10_plan_ok (sl X)  hc) SH_123 mv_RL_157_9 (fun _ => rfl) (by decide) (Nat.le_of_ble_eq_true rfl) (bnd_cs hRC hbm) dL_law_1122 rfl ?_
      refine s_istore hX dL_law_1125 (by decide) ?_
      refine s_aload_n hX dL_law_1127 rfl ?_
      obtain ⟨r13, hc, h⟩ := bn_some h
      refine s_callVI _ hX (cX10_thrown_ok (sl X)  hc) SH_123 mv_RL_107_9 (fun _ => rfl) (by decide) (Nat.le_of_ble_eq_true rfl) (bnd_cs hRC hbm) dL_law_1128 rfl ?_
      refine s_iload hX dL_law_1131 rfl ?_
      refine s_ic_eq (tgt := 1138) hX dL_law_1133 (by decide) (fun c18 => ?_) (fun c18 => ?_)
      · replace h := (if_pos c18).symm.trans h
        refine s_iload hX dL_law_1138 rfl ?_
        refine s_if_ne (tgt := 1155) hX dL_law_1140 (by decide) (fun c17 => ?_) (fun c17 => ?_)
        · replace h := (if_neg c17).symm.trans h
          refine s_goto (tgt := 1771) hX dL_law_1155 (by decide) ?_
          obtain ⟨v14, ev14, h⟩ := bd_some h
          refine s_iinc v14 hX dL_law_1771 rfl (by rw [ev14]; rfl) (by decide) ?_
          refine s_goto (tgt := 23) hX dL_law_1774 (by decide) ?_
          refine s_mask [true, true, true, true, true, false, false] ?_
          exact hrec _ _ h hr1 _ hbm
        · replace h := (if_pos c17).symm.trans h
          refine s_aload_n hX dL_law_1143 rfl ?_
          refine s_iconst 0 hX dL_law_1144 (by decide) ?_
          refine s_lald hX in01 dL_law_1145 ?_
          refine s_iload hX dL_law_1146 rfl ?_
          refine s_i2l hX dL_law_1148 ?_
          refine s_lcmp hX dL_law_1149 ?_
          refine s_if_eq (tgt := 1155) hX dL_law_1150 (by decide) (fun c16 => ?_) (fun c16 => ?_)
          · replace h := (if_pos c16).symm.trans h
            refine s_goto (tgt := 1771) hX dL_law_1155 (by decide) ?_
            obtain ⟨v15, ev15, h⟩ := bd_some h
            refine s_iinc v15 hX dL_law_1771 rfl (by rw [ev15]; rfl) (by decide) ?_
            refine s_goto (tgt := 23) hX dL_law_1774 (by decide) ?_
            refine s_mask [true, true, true, true, true, false, false] ?_
            exact hrec _ _ h hr1 _ hbm
          · replace h := (if_neg c16).symm.trans h
            refine s_iconst 0 hX dL_law_1153 (by decide) ?_
            exact absurd (rt1 h).symm (by rw [hr1]; decide)
      · replace h := (if_neg c18).symm.trans h
        refine s_iconst 0 hX dL_law_1136 (by decide) ?_
        exact absurd (rt1 h).symm (by rw [hr1]; decide)
    · intro j10 hj10 h
      refine s_if_eq (tgt := 1121) hX dL_law_1114 (by decide) (fun c19 => ?_) (fun c19 => ?_)
      · replace h := (if_pos c19).symm.trans h
        refine s_iconst 0 hX dL_law_1121 (by decide) ?_
        refine s_mask [true, true, true, true, true, true, false] ?_
        exact hj10 _ h
      · replace h := (if_neg c19).symm.trans h
        refine s_iconst 1 hX dL_law_1117 (by decide) ?_
        refine s_goto (tgt := 1122) hX dL_law_1118 (by decide) ?_
        refine s_mask [true, true, true, true, true, true, false] ?_
        exact hj10 _ h
  · intro j4 hj4 h
    refine s_if_eq (tgt := 1094) hX dL_law_1087 (by decide) (fun c20 => ?_) (fun c20 => ?_)
    · replace h := (if_pos c20).symm.trans h
      refine s_iconst 0 hX dL_law_1094 (by decide) ?_
      refine s_mask [true, true, true, true, true, false, false] ?_
      exact hj4 _ h
    · replace h := (if_neg c20).symm.trans h
      refine s_iconst 1 hX dL_law_1090 (by decide) ?_
      refine s_goto (tgt := 1095) hX dL_law_1091 (by decide) ?_
      refine s_mask [true, true, true, true, true, false, false] ?_
      exact hj4 _ h
set_option maxHeartbeats 4000000 in
theorem k_law15 {X : sT} (hX : sX X cL_law RL 7 20 10830) (hlX : (sl X).stackTraces = false) (hRC : 603072 ≤ (sR X).cells ∧ 7186538 ≤ (sR X).slots) (hnc : sNc X) {b Ln : Nat} {xs : Nat → Int32} (hsc : sScr X b Ln xs) (hret : ∀ (cs : Nat × Nat) (σ : Mm) (pc : Nat) (L : List (Option Value)), (cs.1 ≤ 603072 ∧ cs.2 ≤ 7186538) → decode cL_law pc = .ok (.ireturn, 1) → sW X 7 cs σ pc L [.int 1]) {n : Nat} {rec : Mm × Int32 → Option Int32} (hrec : ∀ (s : Mm × Int32) (r : Int32), rec s = some r → r = 1 → ∀ cs, bnd n cs → sW X 7 cs s.1 23 [some (Value.ref b), some (.ref (sad X 0)), some (.ref (sad X 123)), some (.ref (sad X 170)), some (.int s.2), none, none] []) {cs : Nat × Nat} (hbn : bnd (n + 1) cs) {σ : Mm} {x4 r : Int32} (hr1 : r = 1) (h : u_law15 xs Ln rec σ x4 = some r) : sW X 7 cs σ 1158 [some (Value.ref b), some (.ref (sad X 0)), some (.ref (sad X 123)), some (.ref (sad X 170)), some (.int x4), none, none] [] := by
  unfold u_law15 at h
  refine s_aload_n hX dL_law_1158 rfl ?_
  refine s_aload_n hX dL_law_1159 rfl ?_
  refine s_iload hX dL_law_1160 rfl ?_
  refine s_iconst 1 hX dL_law_1162 (by decide) ?_
  refine s_iadd hX dL_law_1163 ?_
  obtain ⟨c1, h⟩ := gd_some h
  refine s_sld hX hsc c1 dL_law_1164 ?_
  refine s_aload_n hX dL_law_1165 rfl ?_
  refine s_iload hX dL_law_1166 rfl ?_
  refine s_iconst 2 hX dL_law_1168 (by decide) ?_
  refine s_iadd hX dL_law_1169 ?_
  obtain ⟨c2, h⟩ := gd_some h
  refine s_sld hX hsc c2 dL_law_1170 ?_
  refine s_aload_n hX dL_law_1171 rfl ?_
  obtain ⟨r3, σ4, hc, h⟩ := bn2_some h
  refine s_callSL _ hX (cL_home_ok (sl X) hlX hc) mw_158 (fun _ => rfl) (by decide) (Nat.le_of_ble_eq_true rfl) (bnd_ct hRC hbn) hnc dL_law_1172 rfl ?_
  have hbm := bnd_step hbn
  generalize (cs.1 + 1, cs.2 + 6) = cs at hbm ⊢
  refine s_istore hX dL_law_1175 (by decide) ?_
  refine s_aload_n hX dL_law_1177 rfl ?_
  refine s_aload_n hX dL_law_1178 rfl ?_
  refine s_iload hX dL_law_1179 rfl ?_
  refine s_iconst 1 hX dL_law_1181 (by decide) ?_
  refine s_iadd hX dL_law_1182 ?_
  obtain ⟨c5, h⟩ := gd_some h
  refine s_sld hX hsc c5 dL_law_1183 ?_
  refine s_aload_n hX dL_law_1184 rfl ?_
  refine s_iload hX dL_law_1185 rfl ?_
  refine s_iconst 2 hX dL_law_1187 (by decide) ?_
  refine s_iadd hX dL_law_1188 ?_
  obtain ⟨c6, h⟩ := gd_some h
  refine s_sld hX hsc c6 dL_law_1189 ?_
  obtain ⟨r7, σ8, hc, h⟩ := bn2_some h
  refine s_callVI _ hX (cX10_home_ok (sl X)  hc) SH_123 mv_RL_160_9 (fun _ => rfl) (by decide) (Nat.le_of_ble_eq_true rfl) (bnd_cs hRC hbm) dL_law_1190 rfl ?_
  refine s_istore hX dL_law_1193 (by decide) ?_
  refine s_aload_n hX dL_law_1195 rfl ?_
  obtain ⟨r9, hc, h⟩ := bn_some h
  refine s_callVI _ hX (cX10_thrown_ok (sl X)  hc) SH_123 mv_RL_107_9 (fun _ => rfl) (by decide) (Nat.le_of_ble_eq_true rfl) (bnd_cs hRC hbm) dL_law_1196 rfl ?_
  refine s_iload hX dL_law_1199 rfl ?_
  refine s_ic_eq (tgt := 1206) hX dL_law_1201 (by decide) (fun c14 => ?_) (fun c14 => ?_)
  · replace h := (if_pos c14).symm.trans h
    refine s_iload hX dL_law_1206 rfl ?_
    refine s_if_ne (tgt := 1223) hX dL_law_1208 (by decide) (fun c13 => ?_) (fun c13 => ?_)
    · replace h := (if_neg c13).symm.trans h
      refine s_goto (tgt := 1771) hX dL_law_1223 (by decide) ?_
      obtain ⟨v10, ev10, h⟩ := bd_some h
      refine s_iinc v10 hX dL_law_1771 rfl (by rw [ev10]; rfl) (by decide) ?_
      refine s_goto (tgt := 23) hX dL_law_1774 (by decide) ?_
      refine s_mask [true, true, true, true, true, false, false] ?_
      exact hrec _ _ h hr1 _ hbm
    · replace h := (if_pos c13).symm.trans h
      refine s_aload_n hX dL_law_1211 rfl ?_
      refine s_iconst 0 hX dL_law_1212 (by decide) ?_
      refine s_lald hX in01 dL_law_1213 ?_
      refine s_iload hX dL_law_1214 rfl ?_
      refine s_i2l hX dL_law_1216 ?_
      refine s_lcmp hX dL_law_1217 ?_
      refine s_if_eq (tgt := 1223) hX dL_law_1218 (by decide) (fun c12 => ?_) (fun c12 => ?_)
      · replace h := (if_pos c12).symm.trans h
        refine s_goto (tgt := 1771) hX dL_law_1223 (by decide) ?_
        obtain ⟨v11, ev11, h⟩ := bd_some h
        refine s_iinc v11 hX dL_law_1771 rfl (by rw [ev11]; rfl) (by decide) ?_
        refine s_goto (tgt := 23) hX dL_law_1774 (by decide) ?_
        refine s_mask [true, true, true, true, true, false, false] ?_
        exact hrec _ _ h hr1 _ hbm
      · replace h := (if_neg c12).symm.trans h
        refine s_iconst 0 hX dL_law_1221 (by decide) ?_
        exact absurd (rt1 h).symm (by rw [hr1]; decide)
  · replace h := (if_neg c14).symm.trans h
    refine s_iconst 0 hX dL_law_1204 (by decide) ?_
    exact absurd (rt1 h).symm (by rw [hr1]; decide)
set_option maxHeartbeats 4000000 in
theorem k_law16 {X : sT} (hX : sX X cL_law RL 7 20 10830) (hlX : (sl X).stackTraces = false) (hRC : 603072 ≤ (sR X).cells ∧ 7186538 ≤ (sR X).slots) (hnc : sNc X) {b Ln : Nat} {xs : Nat → Int32} (hsc : sScr X b Ln xs) (hret : ∀ (cs : Nat × Nat) (σ : Mm) (pc : Nat) (L : List (Option Value)), (cs.1 ≤ 603072 ∧ cs.2 ≤ 7186538) → decode cL_law pc = .ok (.ireturn, 1) → sW X 7 cs σ pc L [.int 1]) {n : Nat} {rec : Mm × Int32 → Option Int32} (hrec : ∀ (s : Mm × Int32) (r : Int32), rec s = some r → r = 1 → ∀ cs, bnd n cs → sW X 7 cs s.1 23 [some (Value.ref b), some (.ref (sad X 0)), some (.ref (sad X 123)), some (.ref (sad X 170)), some (.int s.2), none, none] []) {cs : Nat × Nat} (hbn : bnd (n + 1) cs) {σ : Mm} {x4 r : Int32} (hr1 : r = 1) (h : u_law16 xs Ln rec σ x4 = some r) : sW X 7 cs σ 1226 [some (Value.ref b), some (.ref (sad X 0)), some (.ref (sad X 123)), some (.ref (sad X 170)), some (.int x4), none, none] [] := by
  unfold u_law16 at h
  refine s_aload_n hX dL_law_1226 rfl ?_
  refine s_aload_n hX dL_law_1227 rfl ?_
  refine s_iload hX dL_law_1228 rfl ?_
  refine s_iconst 1 hX dL_law_1230 (by decide) ?_
  refine s_iadd hX dL_law_1231 ?_
  obtain ⟨c1, h⟩ := gd_some h
  refine s_sld hX hsc c1 dL_law_1232 ?_
  refine s_aload_n hX dL_law_1233 rfl ?_
  refine s_iload hX dL_law_1234 rfl ?_
  refine s_iconst 2 hX dL_law_1236 (by decide) ?_
  refine s_iadd hX dL_law_1237 ?_
  obtain ⟨c2, h⟩ := gd_some h
  refine s_sld hX hsc c2 dL_law_1238 ?_
  refine s_aload_n hX dL_law_1239 rfl ?_
  obtain ⟨r3, σ4, hc, h⟩ := bn2_some h
  refine s_callSL _ hX (cL_promoted_ok (sl X) hlX hc) mw_161 (fun _ => rfl) (by decide) (Nat.le_of_ble_eq_true rfl) (bnd_ct hRC hbn) hnc dL_law_1240 rfl ?_
  have hbm := bnd_step hbn
  generalize (cs.1 + 1, cs.2 + 6) = cs at hbm ⊢
  refine s_istore hX dL_law_1243 (by decide) ?_
  refine s_aload_n hX dL_law_1245 rfl ?_
  refine s_aload_n hX dL_law_1246 rfl ?_
  refine s_iload hX dL_law_1247 rfl ?_
  refine s_iconst 1 hX dL_law_1249 (by decide) ?_
  refine s_iadd hX dL_law_1250 ?_
  obtain ⟨c5, h⟩ := gd_some h
  refine s_sld hX hsc c5 dL_law_1251 ?_
  refine s_aload_n hX dL_law_1252 rfl ?_
  refine s_iload hX dL_law_1253 rfl ?_
  refine s_iconst 2 hX dL_law_1255 (by decide) ?_
  refine s_iadd hX dL_law_1256 ?_
  obtain ⟨c6, h⟩ := gd_some h
  refine s_sld hX hsc c6 dL_law_1257 ?_
  obtain ⟨r7, σ8, hc, h⟩ := bn2_some h
  refine s_callVI _ hX (cX10_promoted_ok (sl X)  hc) SH_123 mv_RL_163_9 (fun _ => rfl) (by decide) (Nat.le_of_ble_eq_true rfl) (bnd_cs hRC hbm) dL_law_1258 rfl ?_
  refine s_istore hX dL_law_1261 (by decide) ?_
  refine s_aload_n hX dL_law_1263 rfl ?_
  obtain ⟨r9, hc, h⟩ := bn_some h
  refine s_callVI _ hX (cX10_thrown_ok (sl X)  hc) SH_123 mv_RL_107_9 (fun _ => rfl) (by decide) (Nat.le_of_ble_eq_true rfl) (bnd_cs hRC hbm) dL_law_1264 rfl ?_
  refine s_iload hX dL_law_1267 rfl ?_
  refine s_ic_eq (tgt := 1274) hX dL_law_1269 (by decide) (fun c14 => ?_) (fun c14 => ?_)
  · replace h := (if_pos c14).symm.trans h
    refine s_iload hX dL_law_1274 rfl ?_
    refine s_if_ne (tgt := 1291) hX dL_law_1276 (by decide) (fun c13 => ?_) (fun c13 => ?_)
    · replace h := (if_neg c13).symm.trans h
      refine s_goto (tgt := 1771) hX dL_law_1291 (by decide) ?_
      obtain ⟨v10, ev10, h⟩ := bd_some h
      refine s_iinc v10 hX dL_law_1771 rfl (by rw [ev10]; rfl) (by decide) ?_
      refine s_goto (tgt := 23) hX dL_law_1774 (by decide) ?_
      refine s_mask [true, true, true, true, true, false, false] ?_
      exact hrec _ _ h hr1 _ hbm
    · replace h := (if_pos c13).symm.trans h
      refine s_aload_n hX dL_law_1279 rfl ?_
      refine s_iconst 0 hX dL_law_1280 (by decide) ?_
      refine s_lald hX in01 dL_law_1281 ?_
      refine s_iload hX dL_law_1282 rfl ?_
      refine s_i2l hX dL_law_1284 ?_
      refine s_lcmp hX dL_law_1285 ?_
      refine s_if_eq (tgt := 1291) hX dL_law_1286 (by decide) (fun c12 => ?_) (fun c12 => ?_)
      · replace h := (if_pos c12).symm.trans h
        refine s_goto (tgt := 1771) hX dL_law_1291 (by decide) ?_
        obtain ⟨v11, ev11, h⟩ := bd_some h
        refine s_iinc v11 hX dL_law_1771 rfl (by rw [ev11]; rfl) (by decide) ?_
        refine s_goto (tgt := 23) hX dL_law_1774 (by decide) ?_
        refine s_mask [true, true, true, true, true, false, false] ?_
        exact hrec _ _ h hr1 _ hbm
      · replace h := (if_neg c12).symm.trans h
        refine s_iconst 0 hX dL_law_1289 (by decide) ?_
        exact absurd (rt1 h).symm (by rw [hr1]; decide)
  · replace h := (if_neg c14).symm.trans h
    refine s_iconst 0 hX dL_law_1272 (by decide) ?_
    exact absurd (rt1 h).symm (by rw [hr1]; decide)
set_option maxHeartbeats 4000000 in
theorem k_law17 {X : sT} (hX : sX X cL_law RL 7 20 10830) (hlX : (sl X).stackTraces = false) (hRC : 603072 ≤ (sR X).cells ∧ 7186538 ≤ (sR X).slots) (hnc : sNc X) {b Ln : Nat} {xs : Nat → Int32} (hsc : sScr X b Ln xs) (hret : ∀ (cs : Nat × Nat) (σ : Mm) (pc : Nat) (L : List (Option Value)), (cs.1 ≤ 603072 ∧ cs.2 ≤ 7186538) → decode cL_law pc = .ok (.ireturn, 1) → sW X 7 cs σ pc L [.int 1]) {n : Nat} {rec : Mm × Int32 → Option Int32} (hrec : ∀ (s : Mm × Int32) (r : Int32), rec s = some r → r = 1 → ∀ cs, bnd n cs → sW X 7 cs s.1 23 [some (Value.ref b), some (.ref (sad X 0)), some (.ref (sad X 123)), some (.ref (sad X 170)), some (.int s.2), none, none] []) {cs : Nat × Nat} (hbn : bnd (n + 1) cs) {σ : Mm} {x4 r : Int32} (hr1 : r = 1) (h : u_law17 xs Ln rec σ x4 = some r) : sW X 7 cs σ 1294 [some (Value.ref b), some (.ref (sad X 0)), some (.ref (sad X 123)), some (.ref (sad X 170)), some (.int x4), none, none] [] := by
  unfold u_law17 at h
  refine s_aload_n hX dL_law_1294 rfl ?_
  refine s_aload_n hX dL_law_1295 rfl ?_
  refine s_iload hX dL_law_1296 rfl ?_
  refine s_iconst 1 hX dL_law_1298 (by decide) ?_
  refine s_iadd hX dL_law_1299 ?_
  obtain ⟨c1, h⟩ := gd_some h
  refine s_sld hX hsc c1 dL_law_1300 ?_
  refine s_aload_n hX dL_law_1301 rfl ?_
  obtain ⟨r2, σ3, hc, h⟩ := bn2_some h
  refine s_callSL _ hX (cL_planned_ok (sl X) hlX hc) mw_164 (fun _ => rfl) (by decide) (Nat.le_of_ble_eq_true rfl) (bnd_ct hRC hbn) hnc dL_law_1302 rfl ?_
  have hbm := bnd_step hbn
  generalize (cs.1 + 1, cs.2 + 6) = cs at hbm ⊢
  refine s_istore hX dL_law_1305 (by decide) ?_
  refine s_aload_n hX dL_law_1307 rfl ?_
  refine s_aload_n hX dL_law_1308 rfl ?_
  refine s_iload hX dL_law_1309 rfl ?_
  refine s_iconst 1 hX dL_law_1311 (by decide) ?_
  refine s_iadd hX dL_law_1312 ?_
  obtain ⟨c4, h⟩ := gd_some h
  refine s_sld hX hsc c4 dL_law_1313 ?_
  obtain ⟨r5, σ6, hc, h⟩ := bn2_some h
  refine s_callVI _ hX (cX10_planned_ok (sl X)  hc) SH_123 mv_RL_166_9 (fun _ => rfl) (by decide) (Nat.le_of_ble_eq_true rfl) (bnd_cs hRC hbm) dL_law_1314 rfl ?_
  refine s_istore hX dL_law_1317 (by decide) ?_
  refine s_aload_n hX dL_law_1319 rfl ?_
  obtain ⟨r7, hc, h⟩ := bn_some h
  refine s_callVI _ hX (cX10_thrown_ok (sl X)  hc) SH_123 mv_RL_107_9 (fun _ => rfl) (by decide) (Nat.le_of_ble_eq_true rfl) (bnd_cs hRC hbm) dL_law_1320 rfl ?_
  refine s_iload hX dL_law_1323 rfl ?_
  refine s_ic_eq (tgt := 1330) hX dL_law_1325 (by decide) (fun c12 => ?_) (fun c12 => ?_)
  · replace h := (if_pos c12).symm.trans h
    refine s_iload hX dL_law_1330 rfl ?_
    refine s_if_ne (tgt := 1347) hX dL_law_1332 (by decide) (fun c11 => ?_) (fun c11 => ?_)
    · replace h := (if_neg c11).symm.trans h
      refine s_goto (tgt := 1771) hX dL_law_1347 (by decide) ?_
      obtain ⟨v8, ev8, h⟩ := bd_some h
      refine s_iinc v8 hX dL_law_1771 rfl (by rw [ev8]; rfl) (by decide) ?_
      refine s_goto (tgt := 23) hX dL_law_1774 (by decide) ?_
      refine s_mask [true, true, true, true, true, false, false] ?_
      exact hrec _ _ h hr1 _ hbm
    · replace h := (if_pos c11).symm.trans h
      refine s_aload_n hX dL_law_1335 rfl ?_
      refine s_iconst 0 hX dL_law_1336 (by decide) ?_
      refine s_lald hX in01 dL_law_1337 ?_
      refine s_iload hX dL_law_1338 rfl ?_
      refine s_i2l hX dL_law_1340 ?_
      refine s_lcmp hX dL_law_1341 ?_
      refine s_if_eq (tgt := 1347) hX dL_law_1342 (by decide) (fun c10 => ?_) (fun c10 => ?_)
      · replace h := (if_pos c10).symm.trans h
        refine s_goto (tgt := 1771) hX dL_law_1347 (by decide) ?_
        obtain ⟨v9, ev9, h⟩ := bd_some h
        refine s_iinc v9 hX dL_law_1771 rfl (by rw [ev9]; rfl) (by decide) ?_
        refine s_goto (tgt := 23) hX dL_law_1774 (by decide) ?_
        refine s_mask [true, true, true, true, true, false, false] ?_
        exact hrec _ _ h hr1 _ hbm
      · replace h := (if_neg c10).symm.trans h
        refine s_iconst 0 hX dL_law_1345 (by decide) ?_
        exact absurd (rt1 h).symm (by rw [hr1]; decide)
  · replace h := (if_neg c12).symm.trans h
    refine s_iconst 0 hX dL_law_1328 (by decide) ?_
    exact absurd (rt1 h).symm (by rw [hr1]; decide)
set_option maxHeartbeats 4000000 in
theorem k_law18 {X : sT} (hX : sX X cL_law RL 7 20 10830) (hlX : (sl X).stackTraces = false) (hRC : 603072 ≤ (sR X).cells ∧ 7186538 ≤ (sR X).slots) (hnc : sNc X) {b Ln : Nat} {xs : Nat → Int32} (hsc : sScr X b Ln xs) (hret : ∀ (cs : Nat × Nat) (σ : Mm) (pc : Nat) (L : List (Option Value)), (cs.1 ≤ 603072 ∧ cs.2 ≤ 7186538) → decode cL_law pc = .ok (.ireturn, 1) → sW X 7 cs σ pc L [.int 1]) {n : Nat} {rec : Mm × Int32 → Option Int32} (hrec : ∀ (s : Mm × Int32) (r : Int32), rec s = some r → r = 1 → ∀ cs, bnd n cs → sW X 7 cs s.1 23 [some (Value.ref b), some (.ref (sad X 0)), some (.ref (sad X 123)), some (.ref (sad X 170)), some (.int s.2), none, none] []) {cs : Nat × Nat} (hbn : bnd (n + 1) cs) {σ : Mm} {x4 r : Int32} (hr1 : r = 1) (h : u_law18 xs Ln rec σ x4 = some r) : sW X 7 cs σ 1350 [some (Value.ref b), some (.ref (sad X 0)), some (.ref (sad X 123)), some (.ref (sad X 170)), some (.int x4), none, none] [] := by
  unfold u_law18 at h
  refine s_aload_n hX dL_law_1350 rfl ?_
  obtain ⟨r1, σ2, hc, h⟩ := bn2_some h
  refine s_callVI _ hX (cX9_enough_ok (sl X)  hc) SH_0 mv_RL_167_8 (fun _ => rfl) (by decide) (Nat.le_of_ble_eq_true rfl) (bnd_cs hRC hbn) dL_law_1351 rfl ?_
  refine s_aload_n hX dL_law_1354 rfl ?_
  obtain ⟨r3, σ4, hc, h⟩ := bn2_some h
  refine s_callVI _ hX (cX10_enough_ok (sl X)  hc) SH_123 mv_RL_170_9 (fun _ => rfl) (by decide) (Nat.le_of_ble_eq_true rfl) (bnd_cs hRC hbn) dL_law_1355 rfl ?_
  refine s_ic_eq (tgt := 1771) hX dL_law_1358 (by decide) (fun c6 => ?_) (fun c6 => ?_)
  · replace h := (if_pos c6).symm.trans h
    obtain ⟨v5, ev5, h⟩ := bd_some h
    refine s_iinc v5 hX dL_law_1771 rfl (by rw [ev5]; rfl) (by decide) ?_
    refine s_goto (tgt := 23) hX dL_law_1774 (by decide) ?_
    refine s_mask [true, true, true, true, true, false, false] ?_
    exact hrec _ _ h hr1 _ (bnd_less hbn)
  · replace h := (if_neg c6).symm.trans h
    refine s_iconst 0 hX dL_law_1361 (by decide) ?_
    exact absurd (rt1 h).symm (by rw [hr1]; decide)
set_option maxHeartbeats 4000000 in
theorem k_law19 {X : sT} (hX : sX X cL_law RL 7 20 10830) (hlX : (sl X).stackTraces = false) (hRC : 603072 ≤ (sR X).cells ∧ 7186538 ≤ (sR X).slots) (hnc : sNc X) {b Ln : Nat} {xs : Nat → Int32} (hsc : sScr X b Ln xs) (hret : ∀ (cs : Nat × Nat) (σ : Mm) (pc : Nat) (L : List (Option Value)), (cs.1 ≤ 603072 ∧ cs.2 ≤ 7186538) → decode cL_law pc = .ok (.ireturn, 1) → sW X 7 cs σ pc L [.int 1]) {n : Nat} {rec : Mm × Int32 → Option Int32} (hrec : ∀ (s : Mm × Int32) (r : Int32), rec s = some r → r = 1 → ∀ cs, bnd n cs → sW X 7 cs s.1 23 [some (Value.ref b), some (.ref (sad X 0)), some (.ref (sad X 123)), some (.ref (sad X 170)), some (.int s.2), none, none] []) {cs : Nat × Nat} (hbn : bnd (n + 1) cs) {σ : Mm} {x4 r : Int32} (hr1 : r = 1) (h : u_law19 xs Ln rec σ x4 = some r) : sW X 7 cs σ 1363 [some (Value.ref b), some (.ref (sad X 0)), some (.ref (sad X 123)), some (.ref (sad X 170)), some (.int x4), none, none] [] := by
  unfold u_law19 at h
  refine s_aload_n hX dL_law_1363 rfl ?_
  refine s_aload_n hX dL_law_1364 rfl ?_
  refine s_iload hX dL_law_1365 rfl ?_
  refine s_iconst 1 hX dL_law_1367 (by decide) ?_
  refine s_iadd hX dL_law_1368 ?_
  obtain ⟨c1, h⟩ := gd_some h
  refine s_sld hX hsc c1 dL_law_1369 ?_
  refine s_aload_n hX dL_law_1370 rfl ?_
  obtain ⟨r2, σ3, hc, h⟩ := bn2_some h
  refine s_callSL _ hX (cL_run_ok (sl X) hlX hc) mw_171 (fun _ => rfl) (by decide) (Nat.le_of_ble_eq_true rfl) (bnd_ct hRC hbn) hnc dL_law_1371 rfl ?_
  have hbm := bnd_step hbn
  generalize (cs.1 + 1, cs.2 + 6) = cs at hbm ⊢
  refine s_istore hX dL_law_1374 (by decide) ?_
  refine s_aload_n hX dL_law_1376 rfl ?_
  refine s_aload_n hX dL_law_1377 rfl ?_
  refine s_iload hX dL_law_1378 rfl ?_
  refine s_iconst 1 hX dL_law_1380 (by decide) ?_
  refine s_iadd hX dL_law_1381 ?_
  obtain ⟨c4, h⟩ := gd_some h
  refine s_sld hX hsc c4 dL_law_1382 ?_
  obtain ⟨r5, σ6, hc, h⟩ := bn2_some h
  refine s_callVI _ hX (cX10_run_ok (sl X)  hc) SH_123 mv_RL_173_9 (fun _ => rfl) (by decide) (Nat.le_of_ble_eq_true rfl) (bnd_cs hRC hbm) dL_law_1383 rfl ?_
  refine s_istore hX dL_law_1386 (by decide) ?_
  refine s_aload_n hX dL_law_1388 rfl ?_
  obtain ⟨r7, hc, h⟩ := bn_some h
  refine s_callVI _ hX (cX10_thrown_ok (sl X)  hc) SH_123 mv_RL_107_9 (fun _ => rfl) (by decide) (Nat.le_of_ble_eq_true rfl) (bnd_cs hRC hbm) dL_law_1389 rfl ?_
  refine s_iload hX dL_law_1392 rfl ?_
  refine s_ic_eq (tgt := 1399) hX dL_law_1394 (by decide) (fun c12 => ?_) (fun c12 => ?_)
  · replace h := (if_pos c12).symm.trans h
    refine s_iload hX dL_law_1399 rfl ?_
    refine s_if_ne (tgt := 1416) hX dL_law_1401 (by decide) (fun c11 => ?_) (fun c11 => ?_)
    · replace h := (if_neg c11).symm.trans h
      refine s_goto (tgt := 1771) hX dL_law_1416 (by decide) ?_
      obtain ⟨v8, ev8, h⟩ := bd_some h
      refine s_iinc v8 hX dL_law_1771 rfl (by rw [ev8]; rfl) (by decide) ?_
      refine s_goto (tgt := 23) hX dL_law_1774 (by decide) ?_
      refine s_mask [true, true, true, true, true, false, false] ?_
      exact hrec _ _ h hr1 _ hbm
    · replace h := (if_pos c11).symm.trans h
      refine s_aload_n hX dL_law_1404 rfl ?_
      refine s_iconst 0 hX dL_law_1405 (by decide) ?_
      refine s_lald hX in01 dL_law_1406 ?_
      refine s_iload hX dL_law_1407 rfl ?_
      refine s_i2l hX dL_law_1409 ?_
      refine s_lcmp hX dL_law_1410 ?_
      refine s_if_eq (tgt := 1416) hX dL_law_1411 (by decide) (fun c10 => ?_) (fun c10 => ?_)
      · replace h := (if_pos c10).symm.trans h
        refine s_goto (tgt := 1771) hX dL_law_1416 (by decide) ?_
        obtain ⟨v9, ev9, h⟩ := bd_some h
        refine s_iinc v9 hX dL_law_1771 rfl (by rw [ev9]; rfl) (by decide) ?_
        refine s_goto (tgt := 23) hX dL_law_1774 (by decide) ?_
        refine s_mask [true, true, true, true, true, false, false] ?_
        exact hrec _ _ h hr1 _ hbm
      · replace h := (if_neg c10).symm.trans h
        refine s_iconst 0 hX dL_law_1414 (by decide) ?_
        exact absurd (rt1 h).symm (by rw [hr1]; decide)
  · replace h := (if_neg c12).symm.trans h
    refine s_iconst 0 hX dL_law_1397 (by decide) ?_
    exact absurd (rt1 h).symm (by rw [hr1]; decide)
set_option maxHeartbeats 4000000 in
theorem k_law20 {X : sT} (hX : sX X cL_law RL 7 20 10830) (hlX : (sl X).stackTraces = false) (hRC : 603072 ≤ (sR X).cells ∧ 7186538 ≤ (sR X).slots) (hnc : sNc X) {b Ln : Nat} {xs : Nat → Int32} (hsc : sScr X b Ln xs) (hret : ∀ (cs : Nat × Nat) (σ : Mm) (pc : Nat) (L : List (Option Value)), (cs.1 ≤ 603072 ∧ cs.2 ≤ 7186538) → decode cL_law pc = .ok (.ireturn, 1) → sW X 7 cs σ pc L [.int 1]) {n : Nat} {rec : Mm × Int32 → Option Int32} (hrec : ∀ (s : Mm × Int32) (r : Int32), rec s = some r → r = 1 → ∀ cs, bnd n cs → sW X 7 cs s.1 23 [some (Value.ref b), some (.ref (sad X 0)), some (.ref (sad X 123)), some (.ref (sad X 170)), some (.int s.2), none, none] []) {cs : Nat × Nat} (hbn : bnd (n + 1) cs) {σ : Mm} {x4 r : Int32} (hr1 : r = 1) (h : u_law20 xs Ln rec σ x4 = some r) : sW X 7 cs σ 1419 [some (Value.ref b), some (.ref (sad X 0)), some (.ref (sad X 123)), some (.ref (sad X 170)), some (.int x4), none, none] [] := by
  unfold u_law20 at h
  refine s_aload_n hX dL_law_1419 rfl ?_
  refine s_aload_n hX dL_law_1420 rfl ?_
  refine s_iload hX dL_law_1421 rfl ?_
  refine s_iconst 1 hX dL_law_1423 (by decide) ?_
  refine s_iadd hX dL_law_1424 ?_
  obtain ⟨c1, h⟩ := gd_some h
  refine s_sld hX hsc c1 dL_law_1425 ?_
  refine s_aload_n hX dL_law_1426 rfl ?_
  obtain ⟨r2, σ3, hc, h⟩ := bn2_some h
  refine s_callSL _ hX (cL_runPlanned_ok (sl X) hlX hc) mw_174 (fun _ => rfl) (by decide) (Nat.le_of_ble_eq_true rfl) (bnd_ct hRC hbn) hnc dL_law_1427 rfl ?_
  have hbm := bnd_step hbn
  generalize (cs.1 + 1, cs.2 + 6) = cs at hbm ⊢
  refine s_istore hX dL_law_1430 (by decide) ?_
  refine s_aload_n hX dL_law_1432 rfl ?_
  refine s_aload_n hX dL_law_1433 rfl ?_
  refine s_iload hX dL_law_1434 rfl ?_
  refine s_iconst 1 hX dL_law_1436 (by decide) ?_
  refine s_iadd hX dL_law_1437 ?_
  obtain ⟨c4, h⟩ := gd_some h
  refine s_sld hX hsc c4 dL_law_1438 ?_
  obtain ⟨r5, σ6, hc, h⟩ := bn2_some h
  refine s_callVI _ hX (cX10_runPlanned_ok (sl X)  hc) SH_123 mv_RL_176_9 (fun _ => rfl) (by decide) (Nat.le_of_ble_eq_true rfl) (bnd_cs hRC hbm) dL_law_1439 rfl ?_
  refine s_istore hX dL_law_1442 (by decide) ?_
  refine s_aload_n hX dL_law_1444 rfl ?_
  obtain ⟨r7, hc, h⟩ := bn_some h
  refine s_callVI _ hX (cX10_thrown_ok (sl X)  hc) SH_123 mv_RL_107_9 (fun _ => rfl) (by decide) (Nat.le_of_ble_eq_true rfl) (bnd_cs hRC hbm) dL_law_1445 rfl ?_
  refine s_iload hX dL_law_1448 rfl ?_
  refine s_ic_eq (tgt := 1455) hX dL_law_1450 (by decide) (fun c12 => ?_) (fun c12 => ?_)
  · replace h := (if_pos c12).symm.trans h
    refine s_iload hX dL_law_1455 rfl ?_
    refine s_if_ne (tgt := 1472) hX dL_law_1457 (by decide) (fun c11 => ?_) (fun c11 => ?_)
    · replace h := (if_neg c11).symm.trans h
      refine s_goto (tgt := 1771) hX dL_law_1472 (by decide) ?_
      obtain ⟨v8, ev8, h⟩ := bd_some h
      refine s_iinc v8 hX dL_law_1771 rfl (by rw [ev8]; rfl) (by decide) ?_
      refine s_goto (tgt := 23) hX dL_law_1774 (by decide) ?_
      refine s_mask [true, true, true, true, true, false, false] ?_
      exact hrec _ _ h hr1 _ hbm
    · replace h := (if_pos c11).symm.trans h
      refine s_aload_n hX dL_law_1460 rfl ?_
      refine s_iconst 0 hX dL_law_1461 (by decide) ?_
      refine s_lald hX in01 dL_law_1462 ?_
      refine s_iload hX dL_law_1463 rfl ?_
      refine s_i2l hX dL_law_1465 ?_
      refine s_lcmp hX dL_law_1466 ?_
      refine s_if_eq (tgt := 1472) hX dL_law_1467 (by decide) (fun c10 => ?_) (fun c10 => ?_)
      · replace h := (if_pos c10).symm.trans h
        refine s_goto (tgt := 1771) hX dL_law_1472 (by decide) ?_
        obtain ⟨v9, ev9, h⟩ := bd_some h
        refine s_iinc v9 hX dL_law_1771 rfl (by rw [ev9]; rfl) (by decide) ?_
        refine s_goto (tgt := 23) hX dL_law_1774 (by decide) ?_
        refine s_mask [true, true, true, true, true, false, false] ?_
        exact hrec _ _ h hr1 _ hbm
      · replace h := (if_neg c10).symm.trans h
        refine s_iconst 0 hX dL_law_1470 (by decide) ?_
        exact absurd (rt1 h).symm (by rw [hr1]; decide)
  · replace h := (if_neg c12).symm.trans h
    refine s_iconst 0 hX dL_law_1453 (by decide) ?_
    exact absurd (rt1 h).symm (by rw [hr1]; decide)
set_option maxHeartbeats 4000000 in
theorem k_law21 {X : sT} (hX : sX X cL_law RL 7 20 10830) (hlX : (sl X).stackTraces = false) (hRC : 603072 ≤ (sR X).cells ∧ 7186538 ≤ (sR X).slots) (hnc : sNc X) {b Ln : Nat} {xs : Nat → Int32} (hsc : sScr X b Ln xs) (hret : ∀ (cs : Nat × Nat) (σ : Mm) (pc : Nat) (L : List (Option Value)), (cs.1 ≤ 603072 ∧ cs.2 ≤ 7186538) → decode cL_law pc = .ok (.ireturn, 1) → sW X 7 cs σ pc L [.int 1]) {n : Nat} {rec : Mm × Int32 → Option Int32} (hrec : ∀ (s : Mm × Int32) (r : Int32), rec s = some r → r = 1 → ∀ cs, bnd n cs → sW X 7 cs s.1 23 [some (Value.ref b), some (.ref (sad X 0)), some (.ref (sad X 123)), some (.ref (sad X 170)), some (.int s.2), none, none] []) {cs : Nat × Nat} (hbn : bnd (n + 1) cs) {σ : Mm} {x4 r : Int32} (hr1 : r = 1) (h : u_law21 xs Ln rec σ x4 = some r) : sW X 7 cs σ 1475 [some (Value.ref b), some (.ref (sad X 0)), some (.ref (sad X 123)), some (.ref (sad X 170)), some (.int x4), none, none] [] := by
  unfold u_law21 at h
  refine s_aload_n hX dL_law_1475 rfl ?_
  refine s_aload_n hX dL_law_1476 rfl ?_
  refine s_iload hX dL_law_1477 rfl ?_
  refine s_iconst 1 hX dL_law_1479 (by decide) ?_
  refine s_iadd hX dL_law_1480 ?_
  obtain ⟨c1, h⟩ := gd_some h
  refine s_sld hX hsc c1 dL_law_1481 ?_
  refine s_aload_n hX dL_law_1482 rfl ?_
  obtain ⟨r2, σ3, hc, h⟩ := bn2_some h
  refine s_callSL _ hX (cL_executed_ok (sl X) hlX hc) mw_177 (fun _ => rfl) (by decide) (Nat.le_of_ble_eq_true rfl) (bnd_ct hRC hbn) hnc dL_law_1483 rfl ?_
  have hbm := bnd_step hbn
  generalize (cs.1 + 1, cs.2 + 6) = cs at hbm ⊢
  refine s_istore hX dL_law_1486 (by decide) ?_
  refine s_aload_n hX dL_law_1488 rfl ?_
  refine s_aload_n hX dL_law_1489 rfl ?_
  refine s_iload hX dL_law_1490 rfl ?_
  refine s_iconst 1 hX dL_law_1492 (by decide) ?_
  refine s_iadd hX dL_law_1493 ?_
  obtain ⟨c4, h⟩ := gd_some h
  refine s_sld hX hsc c4 dL_law_1494 ?_
  obtain ⟨r5, σ6, hc, h⟩ := bn2_some h
  refine s_callVI _ hX (cX10_executed_ok (sl X)  hc) SH_123 mv_RL_179_9 (fun _ => rfl) (by decide) (Nat.le_of_ble_eq_true rfl) (bnd_cs hRC hbm) dL_law_1495 rfl ?_
  refine s_istore hX dL_law_1498 (by decide) ?_
  refine s_aload_n hX dL_law_1500 rfl ?_
  obtain ⟨r7, hc, h⟩ := bn_some h
  refine s_callVI _ hX (cX10_thrown_ok (sl X)  hc) SH_123 mv_RL_107_9 (fun _ => rfl) (by decide) (Nat.le_of_ble_eq_true rfl) (bnd_cs hRC hbm) dL_law_1501 rfl ?_
  refine s_iload hX dL_law_1504 rfl ?_
  refine s_ic_eq (tgt := 1511) hX dL_law_1506 (by decide) (fun c12 => ?_) (fun c12 => ?_)
  · replace h := (if_pos c12).symm.trans h
    refine s_iload hX dL_law_1511 rfl ?_
    refine s_if_ne (tgt := 1528) hX dL_law_1513 (by decide) (fun c11 => ?_) (fun c11 => ?_)
    · replace h := (if_neg c11).symm.trans h
      refine s_goto (tgt := 1771) hX dL_law_1528 (by decide) ?_
      obtain ⟨v8, ev8, h⟩ := bd_some h
      refine s_iinc v8 hX dL_law_1771 rfl (by rw [ev8]; rfl) (by decide) ?_
      refine s_goto (tgt := 23) hX dL_law_1774 (by decide) ?_
      refine s_mask [true, true, true, true, true, false, false] ?_
      exact hrec _ _ h hr1 _ hbm
    · replace h := (if_pos c11).symm.trans h
      refine s_aload_n hX dL_law_1516 rfl ?_
      refine s_iconst 0 hX dL_law_1517 (by decide) ?_
      refine s_lald hX in01 dL_law_1518 ?_
      refine s_iload hX dL_law_1519 rfl ?_
      refine s_i2l hX dL_law_1521 ?_
      refine s_lcmp hX dL_law_1522 ?_
      refine s_if_eq (tgt := 1528) hX dL_law_1523 (by decide) (fun c10 => ?_) (fun c10 => ?_)
      · replace h := (if_pos c10).symm.trans h
        refine s_goto (tgt := 1771) hX dL_law_1528 (by decide) ?_
        obtain ⟨v9, ev9, h⟩ := bd_some h
        refine s_iinc v9 hX dL_law_1771 rfl (by rw [ev9]; rfl) (by decide) ?_
        refine s_goto (tgt := 23) hX dL_law_1774 (by decide) ?_
        refine s_mask [true, true, true, true, true, false, false] ?_
        exact hrec _ _ h hr1 _ hbm
      · replace h := (if_neg c10).symm.trans h
        refine s_iconst 0 hX dL_law_1526 (by decide) ?_
        exact absurd (rt1 h).symm (by rw [hr1]; decide)
  · replace h := (if_neg c12).symm.trans h
    refine s_iconst 0 hX dL_law_1509 (by decide) ?_
    exact absurd (rt1 h).symm (by rw [hr1]; decide)
set_option maxHeartbeats 4000000 in
theorem k_law22 {X : sT} (hX : sX X cL_law RL 7 20 10830) (hlX : (sl X).stackTraces = false) (hRC : 603072 ≤ (sR X).cells ∧ 7186538 ≤ (sR X).slots) (hnc : sNc X) {b Ln : Nat} {xs : Nat → Int32} (hsc : sScr X b Ln xs) (hret : ∀ (cs : Nat × Nat) (σ : Mm) (pc : Nat) (L : List (Option Value)), (cs.1 ≤ 603072 ∧ cs.2 ≤ 7186538) → decode cL_law pc = .ok (.ireturn, 1) → sW X 7 cs σ pc L [.int 1]) {n : Nat} {rec : Mm × Int32 → Option Int32} (hrec : ∀ (s : Mm × Int32) (r : Int32), rec s = some r → r = 1 → ∀ cs, bnd n cs → sW X 7 cs s.1 23 [some (Value.ref b), some (.ref (sad X 0)), some (.ref (sad X 123)), some (.ref (sad X 170)), some (.int s.2), none, none] []) {cs : Nat × Nat} (hbn : bnd (n + 1) cs) {σ : Mm} {x4 r : Int32} (hr1 : r = 1) (h : u_law22 xs Ln rec σ x4 = some r) : sW X 7 cs σ 1531 [some (Value.ref b), some (.ref (sad X 0)), some (.ref (sad X 123)), some (.ref (sad X 170)), some (.int x4), none, none] [] := by
  unfold u_law22 at h
  refine s_aload_n hX dL_law_1531 rfl ?_
  refine s_aload_n hX dL_law_1532 rfl ?_
  refine s_iload hX dL_law_1533 rfl ?_
  refine s_iconst 1 hX dL_law_1535 (by decide) ?_
  refine s_iadd hX dL_law_1536 ?_
  obtain ⟨c1, h⟩ := gd_some h
  refine s_sld hX hsc c1 dL_law_1537 ?_
  refine s_aload_n hX dL_law_1538 rfl ?_
  obtain ⟨r2, σ3, hc, h⟩ := bn2_some h
  refine s_callSL _ hX (cL_visits_ok (sl X) hlX hc) mw_180 (fun _ => rfl) (by decide) (Nat.le_of_ble_eq_true rfl) (bnd_ct hRC hbn) hnc dL_law_1539 rfl ?_
  have hbm := bnd_step hbn
  generalize (cs.1 + 1, cs.2 + 6) = cs at hbm ⊢
  refine s_istore hX dL_law_1542 (by decide) ?_
  refine s_aload_n hX dL_law_1544 rfl ?_
  refine s_aload_n hX dL_law_1545 rfl ?_
  refine s_iload hX dL_law_1546 rfl ?_
  refine s_iconst 1 hX dL_law_1548 (by decide) ?_
  refine s_iadd hX dL_law_1549 ?_
  obtain ⟨c4, h⟩ := gd_some h
  refine s_sld hX hsc c4 dL_law_1550 ?_
  obtain ⟨r5, σ6, hc, h⟩ := bn2_some h
  refine s_callVI _ hX (cX10_visits_ok (sl X)  hc) SH_123 mv_RL_182_9 (fun _ => rfl) (by decide) (Nat.le_of_ble_eq_true rfl) (bnd_cs hRC hbm) dL_law_1551 rfl ?_
  refine s_istore hX dL_law_1554 (by decide) ?_
  refine s_aload_n hX dL_law_1556 rfl ?_
  obtain ⟨r7, hc, h⟩ := bn_some h
  refine s_callVI _ hX (cX10_thrown_ok (sl X)  hc) SH_123 mv_RL_107_9 (fun _ => rfl) (by decide) (Nat.le_of_ble_eq_true rfl) (bnd_cs hRC hbm) dL_law_1557 rfl ?_
  refine s_iload hX dL_law_1560 rfl ?_
  refine s_ic_eq (tgt := 1567) hX dL_law_1562 (by decide) (fun c12 => ?_) (fun c12 => ?_)
  · replace h := (if_pos c12).symm.trans h
    refine s_iload hX dL_law_1567 rfl ?_
    refine s_if_ne (tgt := 1584) hX dL_law_1569 (by decide) (fun c11 => ?_) (fun c11 => ?_)
    · replace h := (if_neg c11).symm.trans h
      refine s_goto (tgt := 1771) hX dL_law_1584 (by decide) ?_
      obtain ⟨v8, ev8, h⟩ := bd_some h
      refine s_iinc v8 hX dL_law_1771 rfl (by rw [ev8]; rfl) (by decide) ?_
      refine s_goto (tgt := 23) hX dL_law_1774 (by decide) ?_
      refine s_mask [true, true, true, true, true, false, false] ?_
      exact hrec _ _ h hr1 _ hbm
    · replace h := (if_pos c11).symm.trans h
      refine s_aload_n hX dL_law_1572 rfl ?_
      refine s_iconst 0 hX dL_law_1573 (by decide) ?_
      refine s_lald hX in01 dL_law_1574 ?_
      refine s_iload hX dL_law_1575 rfl ?_
      refine s_i2l hX dL_law_1577 ?_
      refine s_lcmp hX dL_law_1578 ?_
      refine s_if_eq (tgt := 1584) hX dL_law_1579 (by decide) (fun c10 => ?_) (fun c10 => ?_)
      · replace h := (if_pos c10).symm.trans h
        refine s_goto (tgt := 1771) hX dL_law_1584 (by decide) ?_
        obtain ⟨v9, ev9, h⟩ := bd_some h
        refine s_iinc v9 hX dL_law_1771 rfl (by rw [ev9]; rfl) (by decide) ?_
        refine s_goto (tgt := 23) hX dL_law_1774 (by decide) ?_
        refine s_mask [true, true, true, true, true, false, false] ?_
        exact hrec _ _ h hr1 _ hbm
      · replace h := (if_neg c10).symm.trans h
        refine s_iconst 0 hX dL_law_1582 (by decide) ?_
        exact absurd (rt1 h).symm (by rw [hr1]; decide)
  · replace h := (if_neg c12).symm.trans h
    refine s_iconst 0 hX dL_law_1565 (by decide) ?_
    exact absurd (rt1 h).symm (by rw [hr1]; decide)
set_option maxHeartbeats 4000000 in
theorem k_law23 {X : sT} (hX : sX X cL_law RL 7 20 10830) (hlX : (sl X).stackTraces = false) (hRC : 603072 ≤ (sR X).cells ∧ 7186538 ≤ (sR X).slots) (hnc : sNc X) {b Ln : Nat} {xs : Nat → Int32} (hsc : sScr X b Ln xs) (hret : ∀ (cs : Nat × Nat) (σ : Mm) (pc : Nat) (L : List (Option Value)), (cs.1 ≤ 603072 ∧ cs.2 ≤ 7186538) → decode cL_law pc = .ok (.ireturn, 1) → sW X 7 cs σ pc L [.int 1]) {n : Nat} {rec : Mm × Int32 → Option Int32} (hrec : ∀ (s : Mm × Int32) (r : Int32), rec s = some r → r = 1 → ∀ cs, bnd n cs → sW X 7 cs s.1 23 [some (Value.ref b), some (.ref (sad X 0)), some (.ref (sad X 123)), some (.ref (sad X 170)), some (.int s.2), none, none] []) {cs : Nat × Nat} (hbn : bnd (n + 1) cs) {σ : Mm} {x4 r : Int32} (hr1 : r = 1) (h : u_law23 xs Ln rec σ x4 = some r) : sW X 7 cs σ 1587 [some (Value.ref b), some (.ref (sad X 0)), some (.ref (sad X 123)), some (.ref (sad X 170)), some (.int x4), none, none] [] := by
  unfold u_law23 at h
  refine s_aload_n hX dL_law_1587 rfl ?_
  obtain ⟨r1, σ2, hc, h⟩ := bn2_some h
  refine s_callVI _ hX (cX9_profile_ok (sl X)  hc) SH_0 mv_RL_183_8 (fun _ => rfl) (by decide) (Nat.le_of_ble_eq_true rfl) (bnd_cs hRC hbn) dL_law_1588 rfl ?_
  refine s_aload_n hX dL_law_1591 rfl ?_
  obtain ⟨r3, σ4, hc, h⟩ := bn2_some h
  refine s_callVI _ hX (cX10_profile_ok (sl X)  hc) SH_123 mv_RL_186_9 (fun _ => rfl) (by decide) (Nat.le_of_ble_eq_true rfl) (bnd_cs hRC hbn) dL_law_1592 rfl ?_
  refine s_ic_eq (tgt := 1771) hX dL_law_1595 (by decide) (fun c6 => ?_) (fun c6 => ?_)
  · replace h := (if_pos c6).symm.trans h
    obtain ⟨v5, ev5, h⟩ := bd_some h
    refine s_iinc v5 hX dL_law_1771 rfl (by rw [ev5]; rfl) (by decide) ?_
    refine s_goto (tgt := 23) hX dL_law_1774 (by decide) ?_
    refine s_mask [true, true, true, true, true, false, false] ?_
    exact hrec _ _ h hr1 _ (bnd_less hbn)
  · replace h := (if_neg c6).symm.trans h
    refine s_iconst 0 hX dL_law_1598 (by decide) ?_
    exact absurd (rt1 h).symm (by rw [hr1]; decide)
set_option maxHeartbeats 4000000 in
theorem k_law24 {X : sT} (hX : sX X cL_law RL 7 20 10830) (hlX : (sl X).stackTraces = false) (hRC : 603072 ≤ (sR X).cells ∧ 7186538 ≤ (sR X).slots) (hnc : sNc X) {b Ln : Nat} {xs : Nat → Int32} (hsc : sScr X b Ln xs) (hret : ∀ (cs : Nat × Nat) (σ : Mm) (pc : Nat) (L : List (Option Value)), (cs.1 ≤ 603072 ∧ cs.2 ≤ 7186538) → decode cL_law pc = .ok (.ireturn, 1) → sW X 7 cs σ pc L [.int 1]) {n : Nat} {rec : Mm × Int32 → Option Int32} (hrec : ∀ (s : Mm × Int32) (r : Int32), rec s = some r → r = 1 → ∀ cs, bnd n cs → sW X 7 cs s.1 23 [some (Value.ref b), some (.ref (sad X 0)), some (.ref (sad X 123)), some (.ref (sad X 170)), some (.int s.2), none, none] []) {cs : Nat × Nat} (hbn : bnd (n + 1) cs) {σ : Mm} {x4 r : Int32} (hr1 : r = 1) (h : u_law24 xs Ln rec σ x4 = some r) : sW X 7 cs σ 1600 [some (Value.ref b), some (.ref (sad X 0)), some (.ref (sad X 123)), some (.ref (sad X 170)), some (.int x4), none, none] [] := by
  unfold u_law24 at h
  refine s_aload_n hX dL_law_1600 rfl ?_
  refine s_aload_n hX dL_law_1601 rfl ?_
  refine s_iload hX dL_law_1602 rfl ?_
  refine s_iconst 1 hX dL_law_1604 (by decide) ?_
  refine s_iadd hX dL_law_1605 ?_
  obtain ⟨c1, h⟩ := gd_some h
  refine s_sld hX hsc c1 dL_law_1606 ?_
  refine s_i2c hX dL_law_1607 ?_
  refine s_aload_n hX dL_law_1608 rfl ?_
  obtain ⟨r2, σ3, hc, h⟩ := bn2_some h
  refine s_callSL _ hX (cL_feed_ok (sl X) hlX hc) mw_187 (fun _ => rfl) (by decide) (Nat.le_of_ble_eq_true rfl) (bnd_ct hRC hbn) hnc dL_law_1609 rfl ?_
  have hbm := bnd_step hbn
  generalize (cs.1 + 1, cs.2 + 6) = cs at hbm ⊢
  refine s_istore hX dL_law_1612 (by decide) ?_
  refine s_aload_n hX dL_law_1614 rfl ?_
  refine s_aload_n hX dL_law_1615 rfl ?_
  refine s_iload hX dL_law_1616 rfl ?_
  refine s_iconst 1 hX dL_law_1618 (by decide) ?_
  refine s_iadd hX dL_law_1619 ?_
  obtain ⟨c4, h⟩ := gd_some h
  refine s_sld hX hsc c4 dL_law_1620 ?_
  refine s_i2c hX dL_law_1621 ?_
  obtain ⟨r5, σ6, hc, h⟩ := bn2_some h
  refine s_callVI _ hX (cX10_feed_ok (sl X)  hc) SH_123 mv_RL_190_9 (fun _ => rfl) (by decide) (Nat.le_of_ble_eq_true rfl) (bnd_cs hRC hbm) dL_law_1622 rfl ?_
  refine s_istore hX dL_law_1625 (by decide) ?_
  refine s_aload_n hX dL_law_1627 rfl ?_
  obtain ⟨r7, hc, h⟩ := bn_some h
  refine s_callVI _ hX (cX10_thrown_ok (sl X)  hc) SH_123 mv_RL_107_9 (fun _ => rfl) (by decide) (Nat.le_of_ble_eq_true rfl) (bnd_cs hRC hbm) dL_law_1628 rfl ?_
  refine s_iload hX dL_law_1631 rfl ?_
  refine s_ic_eq (tgt := 1638) hX dL_law_1633 (by decide) (fun c12 => ?_) (fun c12 => ?_)
  · replace h := (if_pos c12).symm.trans h
    refine s_iload hX dL_law_1638 rfl ?_
    refine s_if_ne (tgt := 1655) hX dL_law_1640 (by decide) (fun c11 => ?_) (fun c11 => ?_)
    · replace h := (if_neg c11).symm.trans h
      refine s_goto (tgt := 1771) hX dL_law_1655 (by decide) ?_
      obtain ⟨v8, ev8, h⟩ := bd_some h
      refine s_iinc v8 hX dL_law_1771 rfl (by rw [ev8]; rfl) (by decide) ?_
      refine s_goto (tgt := 23) hX dL_law_1774 (by decide) ?_
      refine s_mask [true, true, true, true, true, false, false] ?_
      exact hrec _ _ h hr1 _ hbm
    · replace h := (if_pos c11).symm.trans h
      refine s_aload_n hX dL_law_1643 rfl ?_
      refine s_iconst 0 hX dL_law_1644 (by decide) ?_
      refine s_lald hX in01 dL_law_1645 ?_
      refine s_iload hX dL_law_1646 rfl ?_
      refine s_i2l hX dL_law_1648 ?_
      refine s_lcmp hX dL_law_1649 ?_
      refine s_if_eq (tgt := 1655) hX dL_law_1650 (by decide) (fun c10 => ?_) (fun c10 => ?_)
      · replace h := (if_pos c10).symm.trans h
        refine s_goto (tgt := 1771) hX dL_law_1655 (by decide) ?_
        obtain ⟨v9, ev9, h⟩ := bd_some h
        refine s_iinc v9 hX dL_law_1771 rfl (by rw [ev9]; rfl) (by decide) ?_
        refine s_goto (tgt := 23) hX dL_law_1774 (by decide) ?_
        refine s_mask [true, true, true, true, true, false, false] ?_
        exact hrec _ _ h hr1 _ hbm
      · replace h := (if_neg c10).symm.trans h
        refine s_iconst 0 hX dL_law_1653 (by decide) ?_
        exact absurd (rt1 h).symm (by rw [hr1]; decide)
  · replace h := (if_neg c12).symm.trans h
    refine s_iconst 0 hX dL_law_1636 (by decide) ?_
    exact absurd (rt1 h).symm (by rw [hr1]; decide)
set_option maxHeartbeats 4000000 in
theorem k_law25 {X : sT} (hX : sX X cL_law RL 7 20 10830) (hlX : (sl X).stackTraces = false) (hRC : 603072 ≤ (sR X).cells ∧ 7186538 ≤ (sR X).slots) (hnc : sNc X) {b Ln : Nat} {xs : Nat → Int32} (hsc : sScr X b Ln xs) (hret : ∀ (cs : Nat × Nat) (σ : Mm) (pc : Nat) (L : List (Option Value)), (cs.1 ≤ 603072 ∧ cs.2 ≤ 7186538) → decode cL_law pc = .ok (.ireturn, 1) → sW X 7 cs σ pc L [.int 1]) {n : Nat} {rec : Mm × Int32 → Option Int32} (hrec : ∀ (s : Mm × Int32) (r : Int32), rec s = some r → r = 1 → ∀ cs, bnd n cs → sW X 7 cs s.1 23 [some (Value.ref b), some (.ref (sad X 0)), some (.ref (sad X 123)), some (.ref (sad X 170)), some (.int s.2), none, none] []) {cs : Nat × Nat} (hbn : bnd (n + 1) cs) {σ : Mm} {x4 r : Int32} (hr1 : r = 1) (h : u_law25 xs Ln rec σ x4 = some r) : sW X 7 cs σ 1658 [some (Value.ref b), some (.ref (sad X 0)), some (.ref (sad X 123)), some (.ref (sad X 170)), some (.int x4), none, none] [] := by
  unfold u_law25 at h
  refine s_aload_n hX dL_law_1658 rfl ?_
  refine s_aload_n hX dL_law_1659 rfl ?_
  refine s_iload hX dL_law_1660 rfl ?_
  refine s_iconst 1 hX dL_law_1662 (by decide) ?_
  refine s_iadd hX dL_law_1663 ?_
  obtain ⟨c1, h⟩ := gd_some h
  refine s_sld hX hsc c1 dL_law_1664 ?_
  refine s_aload_n hX dL_law_1665 rfl ?_
  obtain ⟨r2, σ3, hc, h⟩ := bn2_some h
  refine s_callSL _ hX (cL_read_ok (sl X) hlX hc) mw_191 (fun _ => rfl) (by decide) (Nat.le_of_ble_eq_true rfl) (bnd_ct hRC hbn) hnc dL_law_1666 rfl ?_
  have hbm := bnd_step hbn
  generalize (cs.1 + 1, cs.2 + 6) = cs at hbm ⊢
  refine s_istore hX dL_law_1669 (by decide) ?_
  refine s_aload_n hX dL_law_1671 rfl ?_
  refine s_aload_n hX dL_law_1672 rfl ?_
  refine s_iload hX dL_law_1673 rfl ?_
  refine s_iconst 1 hX dL_law_1675 (by decide) ?_
  refine s_iadd hX dL_law_1676 ?_
  obtain ⟨c4, h⟩ := gd_some h
  refine s_sld hX hsc c4 dL_law_1677 ?_
  obtain ⟨r5, σ6, hc, h⟩ := bn2_some h
  refine s_callVI _ hX (cX10_read_ok (sl X)  hc) SH_123 mv_RL_193_9 (fun _ => rfl) (by decide) (Nat.le_of_ble_eq_true rfl) (bnd_cs hRC hbm) dL_law_1678 rfl ?_
  refine s_istore hX dL_law_1681 (by decide) ?_
  refine s_aload_n hX dL_law_1683 rfl ?_
  obtain ⟨r7, hc, h⟩ := bn_some h
  refine s_callVI _ hX (cX10_thrown_ok (sl X)  hc) SH_123 mv_RL_107_9 (fun _ => rfl) (by decide) (Nat.le_of_ble_eq_true rfl) (bnd_cs hRC hbm) dL_law_1684 rfl ?_
  refine s_iload hX dL_law_1687 rfl ?_
  refine s_ic_eq (tgt := 1694) hX dL_law_1689 (by decide) (fun c12 => ?_) (fun c12 => ?_)
  · replace h := (if_pos c12).symm.trans h
    refine s_iload hX dL_law_1694 rfl ?_
    refine s_if_ne (tgt := 1711) hX dL_law_1696 (by decide) (fun c11 => ?_) (fun c11 => ?_)
    · replace h := (if_neg c11).symm.trans h
      refine s_goto (tgt := 1771) hX dL_law_1711 (by decide) ?_
      obtain ⟨v8, ev8, h⟩ := bd_some h
      refine s_iinc v8 hX dL_law_1771 rfl (by rw [ev8]; rfl) (by decide) ?_
      refine s_goto (tgt := 23) hX dL_law_1774 (by decide) ?_
      refine s_mask [true, true, true, true, true, false, false] ?_
      exact hrec _ _ h hr1 _ hbm
    · replace h := (if_pos c11).symm.trans h
      refine s_aload_n hX dL_law_1699 rfl ?_
      refine s_iconst 0 hX dL_law_1700 (by decide) ?_
      refine s_lald hX in01 dL_law_1701 ?_
      refine s_iload hX dL_law_1702 rfl ?_
      refine s_i2l hX dL_law_1704 ?_
      refine s_lcmp hX dL_law_1705 ?_
      refine s_if_eq (tgt := 1711) hX dL_law_1706 (by decide) (fun c10 => ?_) (fun c10 => ?_)
      · replace h := (if_pos c10).symm.trans h
        refine s_goto (tgt := 1771) hX dL_law_1711 (by decide) ?_
        obtain ⟨v9, ev9, h⟩ := bd_some h
        refine s_iinc v9 hX dL_law_1771 rfl (by rw [ev9]; rfl) (by decide) ?_
        refine s_goto (tgt := 23) hX dL_law_1774 (by decide) ?_
        refine s_mask [true, true, true, true, true, false, false] ?_
        exact hrec _ _ h hr1 _ hbm
      · replace h := (if_neg c10).symm.trans h
        refine s_iconst 0 hX dL_law_1709 (by decide) ?_
        exact absurd (rt1 h).symm (by rw [hr1]; decide)
  · replace h := (if_neg c12).symm.trans h
    refine s_iconst 0 hX dL_law_1692 (by decide) ?_
    exact absurd (rt1 h).symm (by rw [hr1]; decide)
set_option maxHeartbeats 4000000 in
theorem k_law26 {X : sT} (hX : sX X cL_law RL 7 20 10830) (hlX : (sl X).stackTraces = false) (hRC : 603072 ≤ (sR X).cells ∧ 7186538 ≤ (sR X).slots) (hnc : sNc X) {b Ln : Nat} {xs : Nat → Int32} (hsc : sScr X b Ln xs) (hret : ∀ (cs : Nat × Nat) (σ : Mm) (pc : Nat) (L : List (Option Value)), (cs.1 ≤ 603072 ∧ cs.2 ≤ 7186538) → decode cL_law pc = .ok (.ireturn, 1) → sW X 7 cs σ pc L [.int 1]) {n : Nat} {rec : Mm × Int32 → Option Int32} (hrec : ∀ (s : Mm × Int32) (r : Int32), rec s = some r → r = 1 → ∀ cs, bnd n cs → sW X 7 cs s.1 23 [some (Value.ref b), some (.ref (sad X 0)), some (.ref (sad X 123)), some (.ref (sad X 170)), some (.int s.2), none, none] []) {cs : Nat × Nat} (hbn : bnd (n + 1) cs) {σ : Mm} {x4 r : Int32} (hr1 : r = 1) (h : u_law26 xs Ln rec σ x4 = some r) : sW X 7 cs σ 1714 [some (Value.ref b), some (.ref (sad X 0)), some (.ref (sad X 123)), some (.ref (sad X 170)), some (.int x4), none, none] [] := by
  unfold u_law26 at h
  refine s_aload_n hX dL_law_1714 rfl ?_
  obtain ⟨r1, σ2, hc, h⟩ := bn2_some h
  refine s_callVI _ hX (cX9_saveSnapshot_ok (sl X)  hc) SH_0 mv_RL_194_8 (fun _ => rfl) (by decide) (Nat.le_of_ble_eq_true rfl) (bnd_cs hRC hbn) dL_law_1715 rfl ?_
  refine s_aload_n hX dL_law_1718 rfl ?_
  obtain ⟨r3, σ4, hc, h⟩ := bn2_some h
  refine s_callVI _ hX (cX10_saveSnapshot_ok (sl X)  hc) SH_123 mv_RL_197_9 (fun _ => rfl) (by decide) (Nat.le_of_ble_eq_true rfl) (bnd_cs hRC hbn) dL_law_1719 rfl ?_
  refine s_ic_eq (tgt := 1771) hX dL_law_1722 (by decide) (fun c6 => ?_) (fun c6 => ?_)
  · replace h := (if_pos c6).symm.trans h
    obtain ⟨v5, ev5, h⟩ := bd_some h
    refine s_iinc v5 hX dL_law_1771 rfl (by rw [ev5]; rfl) (by decide) ?_
    refine s_goto (tgt := 23) hX dL_law_1774 (by decide) ?_
    refine s_mask [true, true, true, true, true, false, false] ?_
    exact hrec _ _ h hr1 _ (bnd_less hbn)
  · replace h := (if_neg c6).symm.trans h
    refine s_iconst 0 hX dL_law_1725 (by decide) ?_
    exact absurd (rt1 h).symm (by rw [hr1]; decide)
set_option maxHeartbeats 4000000 in
theorem k_law27 {X : sT} (hX : sX X cL_law RL 7 20 10830) (hlX : (sl X).stackTraces = false) (hRC : 603072 ≤ (sR X).cells ∧ 7186538 ≤ (sR X).slots) (hnc : sNc X) {b Ln : Nat} {xs : Nat → Int32} (hsc : sScr X b Ln xs) (hret : ∀ (cs : Nat × Nat) (σ : Mm) (pc : Nat) (L : List (Option Value)), (cs.1 ≤ 603072 ∧ cs.2 ≤ 7186538) → decode cL_law pc = .ok (.ireturn, 1) → sW X 7 cs σ pc L [.int 1]) {n : Nat} {rec : Mm × Int32 → Option Int32} (hrec : ∀ (s : Mm × Int32) (r : Int32), rec s = some r → r = 1 → ∀ cs, bnd n cs → sW X 7 cs s.1 23 [some (Value.ref b), some (.ref (sad X 0)), some (.ref (sad X 123)), some (.ref (sad X 170)), some (.int s.2), none, none] []) {cs : Nat × Nat} (hbn : bnd (n + 1) cs) {σ : Mm} {x4 r : Int32} (hr1 : r = 1) (h : u_law27 xs Ln rec σ x4 = some r) : sW X 7 cs σ 1727 [some (Value.ref b), some (.ref (sad X 0)), some (.ref (sad X 123)), some (.ref (sad X 170)), some (.int x4), none, none] [] := by
  unfold u_law27 at h
  refine s_aload_n hX dL_law_1727 rfl ?_
  refine s_aload_n hX dL_law_1728 rfl ?_
  obtain ⟨r1, σ2, hc, h⟩ := bn2_some h
  refine s_callSL _ hX (cL_restoreSnapshot_ok (sl X) hlX hc) mw_198 (fun _ => rfl) (by decide) (Nat.le_of_ble_eq_true rfl) (bnd_ct hRC hbn) hnc dL_law_1729 rfl ?_
  have hbm := bnd_step hbn
  generalize (cs.1 + 1, cs.2 + 6) = cs at hbm ⊢
  refine s_istore hX dL_law_1732 (by decide) ?_
  refine s_aload_n hX dL_law_1734 rfl ?_
  obtain ⟨r3, σ4, hc, h⟩ := bn2_some h
  refine s_callVI _ hX (cX10_restoreSnapshot_ok (sl X)  hc) SH_123 mv_RL_201_9 (fun _ => rfl) (by decide) (Nat.le_of_ble_eq_true rfl) (bnd_cs hRC hbm) dL_law_1735 rfl ?_
  refine s_istore hX dL_law_1738 (by decide) ?_
  refine s_aload_n hX dL_law_1740 rfl ?_
  obtain ⟨r5, hc, h⟩ := bn_some h
  refine s_callVI _ hX (cX10_thrown_ok (sl X)  hc) SH_123 mv_RL_107_9 (fun _ => rfl) (by decide) (Nat.le_of_ble_eq_true rfl) (bnd_cs hRC hbm) dL_law_1741 rfl ?_
  refine s_iload hX dL_law_1744 rfl ?_
  refine s_ic_eq (tgt := 1751) hX dL_law_1746 (by decide) (fun c10 => ?_) (fun c10 => ?_)
  · replace h := (if_pos c10).symm.trans h
    refine s_iload hX dL_law_1751 rfl ?_
    refine s_if_ne (tgt := 1768) hX dL_law_1753 (by decide) (fun c9 => ?_) (fun c9 => ?_)
    · replace h := (if_neg c9).symm.trans h
      refine s_goto (tgt := 1771) hX dL_law_1768 (by decide) ?_
      obtain ⟨v6, ev6, h⟩ := bd_some h
      refine s_iinc v6 hX dL_law_1771 rfl (by rw [ev6]; rfl) (by decide) ?_
      refine s_goto (tgt := 23) hX dL_law_1774 (by decide) ?_
      refine s_mask [true, true, true, true, true, false, false] ?_
      exact hrec _ _ h hr1 _ hbm
    · replace h := (if_pos c9).symm.trans h
      refine s_aload_n hX dL_law_1756 rfl ?_
      refine s_iconst 0 hX dL_law_1757 (by decide) ?_
      refine s_lald hX in01 dL_law_1758 ?_
      refine s_iload hX dL_law_1759 rfl ?_
      refine s_i2l hX dL_law_1761 ?_
      refine s_lcmp hX dL_law_1762 ?_
      refine s_if_eq (tgt := 1768) hX dL_law_1763 (by decide) (fun c8 => ?_) (fun c8 => ?_)
      · replace h := (if_pos c8).symm.trans h
        refine s_goto (tgt := 1771) hX dL_law_1768 (by decide) ?_
        obtain ⟨v7, ev7, h⟩ := bd_some h
        refine s_iinc v7 hX dL_law_1771 rfl (by rw [ev7]; rfl) (by decide) ?_
        refine s_goto (tgt := 23) hX dL_law_1774 (by decide) ?_
        refine s_mask [true, true, true, true, true, false, false] ?_
        exact hrec _ _ h hr1 _ hbm
      · replace h := (if_neg c8).symm.trans h
        refine s_iconst 0 hX dL_law_1766 (by decide) ?_
        exact absurd (rt1 h).symm (by rw [hr1]; decide)
  · replace h := (if_neg c10).symm.trans h
    refine s_iconst 0 hX dL_law_1749 (by decide) ?_
    exact absurd (rt1 h).symm (by rw [hr1]; decide)
set_option maxHeartbeats 8000000 in
theorem p_law {X : sT} (hX : sX X cL_law RL 7 20 10830) (hlX : (sl X).stackTraces = false) (hRC : 603072 ≤ (sR X).cells ∧ 7186538 ≤ (sR X).slots) (hnc : sNc X) {b Ln : Nat} {xs : Nat → Int32} (hsc : sScr X b Ln xs) (hret : ∀ (cs : Nat × Nat) (σ : Mm) (pc : Nat) (L : List (Option Value)), (cs.1 ≤ 603072 ∧ cs.2 ≤ 7186538) → decode cL_law pc = .ok (.ireturn, 1) → sW X 7 cs σ pc L [.int 1]) : ∀ (n : Nat) (s : Mm × Int32) (r : Int32), q_law xs Ln n s = some r → r = 1 → ∀ cs, bnd n cs → sW X 7 cs s.1 23 [some (Value.ref b), some (.ref (sad X 0)), some (.ref (sad X 123)), some (.ref (sad X 170)), some (.int s.2), none, none] [] := by
  refine lp_indN (P := fun n (s : Mm × Int32) (r : Int32) => r = 1 → ∀ cs, bnd n cs → sW X 7 cs s.1 23 [some (Value.ref b), some (.ref (sad X 0)), some (.ref (sad X 123)), some (.ref (sad X 170)), some (.int s.2), none, none] []) ?_
  intro n rec hrec s r h0 hr1 cs hbn
  obtain ⟨σ, x4⟩ := s
  have h : g_law xs Ln rec σ x4 = some r := h0
  unfold g_law at h
  show sW X 7 cs σ 23 [some (Value.ref b), some (.ref (sad X 0)), some (.ref (sad X 123)), some (.ref (sad X 170)), some (.int x4), none, none] []
  refine s_iload hX dL_law_23 rfl ?_
  refine s_aload_n hX dL_law_25 rfl ?_
  refine s_slen hX hsc dL_law_26 ?_
  refine s_bipush 6 hX dL_law_27 (by decide) ?_
  refine s_isub hX dL_law_29 ?_
  refine s_ic_gt (tgt := 1777) hX dL_law_30 (by decide) (fun c0 => ?_) (fun c0 => ?_)
  · refine s_iconst 1 hX dL_law_1777 (by decide) ?_
    exact hret _ _ _ _ (bnd_end hbn) dL_law_1778
  · replace h := (if_neg c0).symm.trans h
    refine s_aload_n hX dL_law_33 rfl ?_
    refine s_iload hX dL_law_34 rfl ?_
    obtain ⟨c1, h⟩ := gd_some h
    refine s_sld hX hsc c1 dL_law_36 ?_
    refine s_bipush 31 hX dL_law_37 (by decide) ?_
    refine s_iand hX dL_law_39 ?_
    obtain ⟨v, ev, h⟩ := bd_some h
    refine s_topi v ev ?_
    by_cases d0 : v = 0
    · replace h := (if_pos d0).symm.trans h
      refine s_tswIn (tgt := 168) hX dL_law_40 (v := 0) d0 (by decide) (by decide) rfl (by decide) ?_
      exact k_law0 hX hlX hRC hnc hsc hret hrec hbn hr1 h
    · replace h := (if_neg d0).symm.trans h
      by_cases d1 : v = 1
      · replace h := (if_pos d1).symm.trans h
        refine s_tswIn (tgt := 224) hX dL_law_40 (v := 1) d1 (by decide) (by decide) rfl (by decide) ?_
        exact k_law1 hX hlX hRC hnc hsc hret hrec hbn hr1 h
      · replace h := (if_neg d1).symm.trans h
        by_cases d2 : v = 2
        · replace h := (if_pos d2).symm.trans h
          refine s_tswIn (tgt := 328) hX dL_law_40 (v := 2) d2 (by decide) (by decide) rfl (by decide) ?_
          exact k_law2 hX hlX hRC hnc hsc hret hrec hbn hr1 h
        · replace h := (if_neg d2).symm.trans h
          by_cases d3 : v = 3
          · replace h := (if_pos d3).symm.trans h
            refine s_tswIn (tgt := 384) hX dL_law_40 (v := 3) d3 (by decide) (by decide) rfl (by decide) ?_
            exact k_law3 hX hlX hRC hnc hsc hret hrec hbn hr1 h
          · replace h := (if_neg d3).symm.trans h
            by_cases d4 : v = 4
            · replace h := (if_pos d4).symm.trans h
              refine s_tswIn (tgt := 488) hX dL_law_40 (v := 4) d4 (by decide) (by decide) rfl (by decide) ?_
              exact k_law4 hX hlX hRC hnc hsc hret hrec hbn hr1 h
            · replace h := (if_neg d4).symm.trans h
              by_cases d5 : v = 5
              · replace h := (if_pos d5).symm.trans h
                refine s_tswIn (tgt := 556) hX dL_law_40 (v := 5) d5 (by decide) (by decide) rfl (by decide) ?_
                exact k_law5 hX hlX hRC hnc hsc hret hrec hbn hr1 h
              · replace h := (if_neg d5).symm.trans h
                by_cases d6 : v = 6
                · replace h := (if_pos d6).symm.trans h
                  refine s_tswIn (tgt := 624) hX dL_law_40 (v := 6) d6 (by decide) (by decide) rfl (by decide) ?_
                  exact k_law6 hX hlX hRC hnc hsc hret hrec hbn hr1 h
                · replace h := (if_neg d6).symm.trans h
                  by_cases d7 : v = 7
                  · replace h := (if_pos d7).symm.trans h
                    refine s_tswIn (tgt := 704) hX dL_law_40 (v := 7) d7 (by decide) (by decide) rfl (by decide) ?_
                    exact k_law7 hX hlX hRC hnc hsc hret hrec hbn hr1 h
                  · replace h := (if_neg d7).symm.trans h
                    by_cases d8 : v = 8
                    · replace h := (if_pos d8).symm.trans h
                      refine s_tswIn (tgt := 772) hX dL_law_40 (v := 8) d8 (by decide) (by decide) rfl (by decide) ?_
                      exact k_law8 hX hlX hRC hnc hsc hret hrec hbn hr1 h
                    · replace h := (if_neg d8).symm.trans h
                      by_cases d9 : v = 9
                      · replace h := (if_pos d9).symm.trans h
                        refine s_tswIn (tgt := 840) hX dL_law_40 (v := 9) d9 (by decide) (by decide) rfl (by decide) ?_
                        exact k_law9 hX hlX hRC hnc hsc hret hrec hbn hr1 h
                      · replace h := (if_neg d9).symm.trans h
                        by_cases d10 : v = 10
                        · replace h := (if_pos d10).symm.trans h
                          refine s_tswIn (tgt := 896) hX dL_law_40 (v := 10) d10 (by decide) (by decide) rfl (by decide) ?_
                          exact k_law10 hX hlX hRC hnc hsc hret hrec hbn hr1 h
                        · replace h := (if_neg d10).symm.trans h
                          by_cases d11 : v = 11
                          · replace h := (if_pos d11).symm.trans h
                            refine s_tswIn (tgt := 909) hX dL_law_40 (v := 11) d11 (by decide) (by decide) rfl (by decide) ?_
                            exact k_law11 hX hlX hRC hnc hsc hret hrec hbn hr1 h
                          · replace h := (if_neg d11).symm.trans h
                            by_cases d12 : v = 12
                            · replace h := (if_pos d12).symm.trans h
                              refine s_tswIn (tgt := 922) hX dL_law_40 (v := 12) d12 (by decide) (by decide) rfl (by decide) ?_
                              exact k_law12 hX hlX hRC hnc hsc hret hrec hbn hr1 h
                            · replace h := (if_neg d12).symm.trans h
                              by_cases d13 : v = 13
                              · replace h := (if_pos d13).symm.trans h
                                refine s_tswIn (tgt := 990) hX dL_law_40 (v := 13) d13 (by decide) (by decide) rfl (by decide) ?_
                                exact k_law13 hX hlX hRC hnc hsc hret hrec hbn hr1 h
                              · replace h := (if_neg d13).symm.trans h
                                by_cases d14 : v = 14
                                · replace h := (if_pos d14).symm.trans h
                                  refine s_tswIn (tgt := 1074) hX dL_law_40 (v := 14) d14 (by decide) (by decide) rfl (by decide) ?_
                                  exact k_law14 hX hlX hRC hnc hsc hret hrec hbn hr1 h
                                · replace h := (if_neg d14).symm.trans h
                                  by_cases d15 : v = 15
                                  · replace h := (if_pos d15).symm.trans h
                                    refine s_tswIn (tgt := 1158) hX dL_law_40 (v := 15) d15 (by decide) (by decide) rfl (by decide) ?_
                                    exact k_law15 hX hlX hRC hnc hsc hret hrec hbn hr1 h
                                  · replace h := (if_neg d15).symm.trans h
                                    by_cases d16 : v = 16
                                    · replace h := (if_pos d16).symm.trans h
                                      refine s_tswIn (tgt := 1226) hX dL_law_40 (v := 16) d16 (by decide) (by decide) rfl (by decide) ?_
                                      exact k_law16 hX hlX hRC hnc hsc hret hrec hbn hr1 h
                                    · replace h := (if_neg d16).symm.trans h
                                      by_cases d17 : v = 17
                                      · replace h := (if_pos d17).symm.trans h
                                        refine s_tswIn (tgt := 1294) hX dL_law_40 (v := 17) d17 (by decide) (by decide) rfl (by decide) ?_
                                        exact k_law17 hX hlX hRC hnc hsc hret hrec hbn hr1 h
                                      · replace h := (if_neg d17).symm.trans h
                                        by_cases d18 : v = 18
                                        · replace h := (if_pos d18).symm.trans h
                                          refine s_tswIn (tgt := 1350) hX dL_law_40 (v := 18) d18 (by decide) (by decide) rfl (by decide) ?_
                                          exact k_law18 hX hlX hRC hnc hsc hret hrec hbn hr1 h
                                        · replace h := (if_neg d18).symm.trans h
                                          by_cases d19 : v = 19
                                          · replace h := (if_pos d19).symm.trans h
                                            refine s_tswIn (tgt := 1363) hX dL_law_40 (v := 19) d19 (by decide) (by decide) rfl (by decide) ?_
                                            exact k_law19 hX hlX hRC hnc hsc hret hrec hbn hr1 h
                                          · replace h := (if_neg d19).symm.trans h
                                            by_cases d20 : v = 20
                                            · replace h := (if_pos d20).symm.trans h
                                              refine s_tswIn (tgt := 1419) hX dL_law_40 (v := 20) d20 (by decide) (by decide) rfl (by decide) ?_
                                              exact k_law20 hX hlX hRC hnc hsc hret hrec hbn hr1 h
                                            · replace h := (if_neg d20).symm.trans h
                                              by_cases d21 : v = 21
                                              · replace h := (if_pos d21).symm.trans h
                                                refine s_tswIn (tgt := 1475) hX dL_law_40 (v := 21) d21 (by decide) (by decide) rfl (by decide) ?_
                                                exact k_law21 hX hlX hRC hnc hsc hret hrec hbn hr1 h
                                              · replace h := (if_neg d21).symm.trans h
                                                by_cases d22 : v = 22
                                                · replace h := (if_pos d22).symm.trans h
                                                  refine s_tswIn (tgt := 1531) hX dL_law_40 (v := 22) d22 (by decide) (by decide) rfl (by decide) ?_
                                                  exact k_law22 hX hlX hRC hnc hsc hret hrec hbn hr1 h
                                                · replace h := (if_neg d22).symm.trans h
                                                  by_cases d23 : v = 23
                                                  · replace h := (if_pos d23).symm.trans h
                                                    refine s_tswIn (tgt := 1587) hX dL_law_40 (v := 23) d23 (by decide) (by decide) rfl (by decide) ?_
                                                    exact k_law23 hX hlX hRC hnc hsc hret hrec hbn hr1 h
                                                  · replace h := (if_neg d23).symm.trans h
                                                    by_cases d24 : v = 24
                                                    · replace h := (if_pos d24).symm.trans h
                                                      refine s_tswIn (tgt := 1600) hX dL_law_40 (v := 24) d24 (by decide) (by decide) rfl (by decide) ?_
                                                      exact k_law24 hX hlX hRC hnc hsc hret hrec hbn hr1 h
                                                    · replace h := (if_neg d24).symm.trans h
                                                      by_cases d25 : v = 25
                                                      · replace h := (if_pos d25).symm.trans h
                                                        refine s_tswIn (tgt := 1658) hX dL_law_40 (v := 25) d25 (by decide) (by decide) rfl (by decide) ?_
                                                        exact k_law25 hX hlX hRC hnc hsc hret hrec hbn hr1 h
                                                      · replace h := (if_neg d25).symm.trans h
                                                        by_cases d26 : v = 26
                                                        · replace h := (if_pos d26).symm.trans h
                                                          refine s_tswIn (tgt := 1714) hX dL_law_40 (v := 26) d26 (by decide) (by decide) rfl (by decide) ?_
                                                          exact k_law26 hX hlX hRC hnc hsc hret hrec hbn hr1 h
                                                        · replace h := (if_neg d26).symm.trans h
                                                          by_cases d27 : v = 27
                                                          · replace h := (if_pos d27).symm.trans h
                                                            refine s_tswIn (tgt := 1727) hX dL_law_40 (v := 27) d27 (by decide) (by decide) rfl (by decide) ?_
                                                            exact k_law27 hX hlX hRC hnc hsc hret hrec hbn hr1 h
                                                          · replace h := (if_neg d27).symm.trans h
                                                            refine s_tswOut (tgt := 1771) hX dL_law_40 (tsw_out0_27 v d0 d1 d2 d3 d4 d5 d6 d7 d8 d9 d10 d11 d12 d13 d14 d15 d16 d17 d18 d19 d20 d21 d22 d23 d24 d25 d26 d27) (by decide) ?_
                                                            obtain ⟨v2, ev2, h⟩ := bd_some h
                                                            refine s_iinc v2 hX dL_law_1771 rfl (by rw [ev2]; rfl) (by decide) ?_
                                                            refine s_goto (tgt := 23) hX dL_law_1774 (by decide) ?_
                                                            exact hrec _ _ h hr1 _ (bnd_less hbn)
