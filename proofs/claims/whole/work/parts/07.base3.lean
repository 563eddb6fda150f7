theorem P_set {D : va_G} {cA : Nat → ClassId} {ad : Nat → Nat} {σ : Mm} {k : Nat} {e : sh_T} {f : Nat → Int32} {w : Nat × va_E} {H1 : Heap} (hk : SH[k]? = some e) (hP1 : va_P D CL (List.set (WS cA ad σ) k w) H1) (hw : w = (ad k, sE cA ad f e)) : va_P D CL (WS cA ad (upm σ k f)) H1 := by
  subst hw
  have e1 := WSg_set (cA := cA) (ad := ad) (σ := σ) hk f
  exact (congrArg (fun w => va_P D CL w H1) e1).mp hP1
def fok (ci n j : Nat) (own : String) (index : Nat) (ty : FieldType) (fin : Bool) : Prop := ∃ (C : String) (T : u_T) (ref : String) (ty0 : Nat → FieldType), CL[ci]? = some (C, T, n) ∧ j < n ∧ (∀ w ∈ u_ws C T n, w ∈ GW) ∧ Cond.fieldLink own index ref (T j).2.1 (T j).2.2.1 ∈ GW ∧ (ref = (T j).1 ∨ Cond.sameField ref (T j).1 (T j).2.1 (T j).2.2.1 ∈ GW) ∧ (∀ k, k < n → parseFieldDescriptor (T k).2.2.1 = some (ty0 k)) ∧ (∀ a, a < n → ∀ b, b < n → a ≠ b → (T a).2.1 ≠ (T b).2.1) ∧ (T j).2.2.2 = fin ∧ parseFieldDescriptor (T j).2.2.1 = some ty
theorem fok_same {args : Array Value} {s : State} {ref a b d : String} (hts : ∀ w ∈ GW, w.before args s = true) (h : ref = a ∨ Cond.sameField ref a b d ∈ GW) : ∀ x, s.fieldFound? a b d = some x → s.fieldFound? ref b d = some x := by
  rcases h with rfl | h
  · exact fun _ h => h
  · exact u_same (hts _ h)
theorem s_getI {X : sT} {cc : ByteArray} {own : String} {nL fr lo : Nat} {cs : Nat × Nat} {σ : Mm} {pc : Nat} {L : List (Option Value)} {st : List Value} {k ci n j index : Nat} {rs : List Nat} {ty : FieldType} {fin : Bool} (h : sX X cc own nL fr lo) (hf : fok ci n j own index ty fin) (hk : SH[k]? = some (1, ci, n, rs)) (hr : rs.getD j 0 = 0) (d : decode cc pc = .ok (.getfield index, 3)) (kk : sW X nL cs σ (pc + 3) L (.int (σ k j) :: st)) : sW X nL cs σ pc L (.ref (sad X k) :: st) := by
  obtain ⟨p, l, e, R, s, m, args, below, meth, c, D, cA, ad, A, Q⟩ := X
  obtain ⟨⟨hx, hb, hml, hown, hts⟩, hfr, hlo, ⟨hK, hij, hAd, hst⟩, hxt, hnew, hlk⟩ := h
  intro H locs ls hP hS hl
  obtain ⟨C, T, ref, ty0, hc, hj, hin, hw, hsm, h6, h7, h8, h9⟩ := hf
  exact va_get hx hb hts hin hown hK hP k (WSg_at hk) hc j hj (hts _ hw) (fok_same hts hsm) ((fs_at hj).trans (congrArg some (fval_i hr))) d (kk H locs ls hP hS hl)
theorem s_getR {X : sT} {cc : ByteArray} {own : String} {nL fr lo : Nat} {cs : Nat × Nat} {σ : Mm} {pc : Nat} {L : List (Option Value)} {st : List Value} {k ci n j index r : Nat} {rs : List Nat} {ty : FieldType} {fin : Bool} (h : sX X cc own nL fr lo) (hf : fok ci n j own index ty fin) (hk : SH[k]? = some (1, ci, n, rs)) (hr : rs.getD j 0 = r + 1) (d : decode cc pc = .ok (.getfield index, 3)) (kk : sW X nL cs σ (pc + 3) L (.ref (sad X r) :: st)) : sW X nL cs σ pc L (.ref (sad X k) :: st) := by
  obtain ⟨p, l, e, R, s, m, args, below, meth, c, D, cA, ad, A, Q⟩ := X
  obtain ⟨⟨hx, hb, hml, hown, hts⟩, hfr, hlo, ⟨hK, hij, hAd, hst⟩, hxt, hnew, hlk⟩ := h
  intro H locs ls hP hS hl
  obtain ⟨C, T, ref, ty0, hc, hj, hin, hw, hsm, h6, h7, h8, h9⟩ := hf
  exact va_get hx hb hts hin hown hK hP k (WSg_at hk) hc j hj (hts _ hw) (fok_same hts hsm) ((fs_at hj).trans (congrArg some (fval_r hr))) d (kk H locs ls hP hS hl)
theorem s_putI {X : sT} {cc : ByteArray} {own : String} {nL fr lo : Nat} {cs : Nat × Nat} {σ : Mm} {pc : Nat} {L : List (Option Value)} {st : List Value} {k ci n j index : Nat} {rs : List Nat} {v : Int32} (h : sX X cc own nL fr lo) (hf : fok ci n j own index .int false) (hk : SH[k]? = some (1, ci, n, rs)) (hr : rs.getD j 0 = 0) (d : decode cc pc = .ok (.putfield index, 3)) (kk : sW X nL cs (upm σ k (upd (σ k) j v)) (pc + 3) L (st)) : sW X nL cs σ pc L (.int v :: .ref (sad X k) :: st) := by
  obtain ⟨p, l, e, R, s, m, args, below, meth, c, D, cA, ad, A, Q⟩ := X
  obtain ⟨⟨hx, hb, hml, hown, hts⟩, hfr, hlo, ⟨hK, hij, hAd, hst⟩, hxt, hnew, hlk⟩ := h
  intro H locs ls hP hS hl
  obtain ⟨C, T, ref, ty0, hc, hj, hin, hw, hsm, h6, h7, h8, h9⟩ := hf
  have e1 : (WS cA ad σ).set k (ad k, .inr (ci, ((List.range n).map (fval ad (σ k) rs)).set j (.int v))) = WS cA ad (upm σ k (upd (σ k) j v)) := by
    rw [fs_set v hj hr]
    exact WSg_set hk _
  refine va_put hx hb hts hin ty0 h6 h7 hown hK hP (WSg_D σ hij hAd) hS k (WSg_at hk) hc j hj (hts _ hw) (fok_same hts hsm) h8 h9 (rfl) (rfl) (by rw [List.length_map, List.length_range]; exact hj) d (fun H1 locs1 hP1 _ hS1 => ?_)
  rw [e1] at hP1
  exact kk H1 locs1 ls hP1 hS1 hl
theorem s_putZ {X : sT} {cc : ByteArray} {own : String} {nL fr lo : Nat} {cs : Nat × Nat} {σ : Mm} {pc : Nat} {L : List (Option Value)} {st : List Value} {k ci n j index : Nat} {rs : List Nat} {v : Int32} (h : sX X cc own nL fr lo) (hf : fok ci n j own index .boolean false) (hk : SH[k]? = some (1, ci, n, rs)) (hr : rs.getD j 0 = 0) (hv : v = 0 ∨ v = 1) (d : decode cc pc = .ok (.putfield index, 3)) (kk : sW X nL cs (upm σ k (upd (σ k) j v)) (pc + 3) L (st)) : sW X nL cs σ pc L (.int v :: .ref (sad X k) :: st) := by
  obtain ⟨p, l, e, R, s, m, args, below, meth, c, D, cA, ad, A, Q⟩ := X
  obtain ⟨⟨hx, hb, hml, hown, hts⟩, hfr, hlo, ⟨hK, hij, hAd, hst⟩, hxt, hnew, hlk⟩ := h
  intro H locs ls hP hS hl
  obtain ⟨C, T, ref, ty0, hc, hj, hin, hw, hsm, h6, h7, h8, h9⟩ := hf
  have e1 : (WS cA ad σ).set k (ad k, .inr (ci, ((List.range n).map (fval ad (σ k) rs)).set j (.int v))) = WS cA ad (upm σ k (upd (σ k) j v)) := by
    rw [fs_set v hj hr]
    exact WSg_set hk _
  refine va_put hx hb hts hin ty0 h6 h7 hown hK hP (WSg_D σ hij hAd) hS k (WSg_at hk) hc j hj (hts _ hw) (fok_same hts hsm) h8 h9 ((by rcases hv with rfl | rfl <;> rfl)) ((by rcases hv with rfl | rfl <;> rfl)) (by rw [List.length_map, List.length_range]; exact hj) d (fun H1 locs1 hP1 _ hS1 => ?_)
  rw [e1] at hP1
  exact kk H1 locs1 ls hP1 hS1 hl
theorem s_iald {X : sT} {cc : ByteArray} {own : String} {nL fr lo : Nat} {cs : Nat × Nat} {σ : Mm} {pc : Nat} {L : List (Option Value)} {st : List Value} {k n : Nat} {i : Int32} (h : sX X cc own nL fr lo) (hk : SH[k]? = some (0, 0, n, [])) (hi : vp_in i n) (d : decode cc pc = .ok (.iaload, 1)) (kk : sW X nL cs σ (pc + 1) L (.int (σ k i.toNatClampNeg) :: st)) : sW X nL cs σ pc L (.int i :: .ref (sad X k) :: st) := by
  obtain ⟨p, l, e, R, s, m, args, below, meth, c, D, cA, ad, A, Q⟩ := X
  obtain ⟨⟨hx, hb, hml, hown, hts⟩, hfr, hlo, ⟨hK, hij, hAd, hst⟩, hxt, hnew, hlk⟩ := h
  intro H locs ls hP hS hl
  exact va_iald hx hb hK hP k 0 (WSg_at hk) rfl hi d (kk H locs ls hP hS hl)
theorem s_cald {X : sT} {cc : ByteArray} {own : String} {nL fr lo : Nat} {cs : Nat × Nat} {σ : Mm} {pc : Nat} {L : List (Option Value)} {st : List Value} {k n : Nat} {i : Int32} (h : sX X cc own nL fr lo) (hk : SH[k]? = some (0, 1, n, [])) (hi : vp_in i n) (d : decode cc pc = .ok (.caload, 1)) (kk : sW X nL cs σ (pc + 1) L (.int (σ k i.toNatClampNeg) :: st)) : sW X nL cs σ pc L (.int i :: .ref (sad X k) :: st) := by
  obtain ⟨p, l, e, R, s, m, args, below, meth, c, D, cA, ad, A, Q⟩ := X
  obtain ⟨⟨hx, hb, hml, hown, hts⟩, hfr, hlo, ⟨hK, hij, hAd, hst⟩, hxt, hnew, hlk⟩ := h
  intro H locs ls hP hS hl
  exact va_cald hx hb hK hP k 1 (WSg_at hk) rfl hi d (kk H locs ls hP hS hl)
theorem s_iast {X : sT} {cc : ByteArray} {own : String} {nL fr lo : Nat} {cs : Nat × Nat} {σ : Mm} {pc : Nat} {L : List (Option Value)} {st : List Value} {k n : Nat} {i v : Int32} (h : sX X cc own nL fr lo) (hk : SH[k]? = some (0, 0, n, [])) (hi : vp_in i n) (d : decode cc pc = .ok (.iastore, 1)) (kk : sW X nL cs (upm σ k (upd (σ k) i.toNatClampNeg v)) (pc + 1) L (st)) : sW X nL cs σ pc L (.int v :: .int i :: .ref (sad X k) :: st) := by
  obtain ⟨p, l, e, R, s, m, args, below, meth, c, D, cA, ad, A, Q⟩ := X
  obtain ⟨⟨hx, hb, hml, hown, hts⟩, hfr, hlo, ⟨hK, hij, hAd, hst⟩, hxt, hnew, hlk⟩ := h
  intro H locs ls hP hS hl
  exact va_iast hx hb hK hP (WSg_D σ hij hAd) hS k 0 (WSg_at hk) rfl hi d (fun H1 locs1 hP1 _ hS1 => kk H1 locs1 ls (P_set hk hP1 rfl) hS1 hl)
def nrc (x : Int32) : Int32 := vp_nar .char x
theorem s_cast {X : sT} {cc : ByteArray} {own : String} {nL fr lo : Nat} {cs : Nat × Nat} {σ : Mm} {pc : Nat} {L : List (Option Value)} {st : List Value} {k n : Nat} {i v : Int32} (h : sX X cc own nL fr lo) (hk : SH[k]? = some (0, 1, n, [])) (hi : vp_in i n) (d : decode cc pc = .ok (.castore, 1)) (kk : sW X nL cs (upm σ k (upd (σ k) i.toNatClampNeg (nrc v))) (pc + 1) L (st)) : sW X nL cs σ pc L (.int v :: .int i :: .ref (sad X k) :: st) := by
  obtain ⟨p, l, e, R, s, m, args, below, meth, c, D, cA, ad, A, Q⟩ := X
  obtain ⟨⟨hx, hb, hml, hown, hts⟩, hfr, hlo, ⟨hK, hij, hAd, hst⟩, hxt, hnew, hlk⟩ := h
  intro H locs ls hP hS hl
  exact va_cast hx hb hK hP (WSg_D σ hij hAd) hS k 1 (WSg_at hk) rfl hi d (fun H1 locs1 hP1 _ hS1 => kk H1 locs1 ls (P_set hk hP1 rfl) hS1 hl)
theorem s_alen {X : sT} {cc : ByteArray} {own : String} {nL fr lo : Nat} {cs : Nat × Nat} {σ : Mm} {pc : Nat} {L : List (Option Value)} {st : List Value} {k t n : Nat} (v : Int32) (h : sX X cc own nL fr lo) (hk : SH[k]? = some (0, t, n, [])) (ht0 : t < 2) (hv : Int32.ofNat n = v) (d : decode cc pc = .ok (.arraylength, 1)) (kk : sW X nL cs σ (pc + 1) L (.int v :: st)) : sW X nL cs σ pc L (.ref (sad X k) :: st) := by
  obtain ⟨p, l, e, R, s, m, args, below, meth, c, D, cA, ad, A, Q⟩ := X
  obtain ⟨⟨hx, hb, hml, hown, hts⟩, hfr, hlo, ⟨hK, hij, hAd, hst⟩, hxt, hnew, hlk⟩ := h
  intro H locs ls hP hS hl
  obtain ⟨ty, ht⟩ : ∃ ty, (TY cA)[t]? = some (cA t, ty) := by
    rcases (show t = 0 ∨ t = 1 by omega) with rfl | rfl
    · exact ⟨_, rfl⟩
    · exact ⟨_, rfl⟩
  exact va_alen hx hb hK hP k t (WSg_at hk) ht hv d (kk H locs ls hP hS hl)
theorem vp_lt {i : Int32} {n : Nat} (h : vp_in i n) : i.toNatClampNeg < n := Nat.lt_of_not_le (fun q => h (Or.inr q))
theorem s_aaldP {X : sT} {cc : ByteArray} {own : String} {nL fr lo : Nat} {cs : Nat × Nat} {σ : Mm} {pc : Nat} {L : List (Option Value)} {st : List Value} {i : Int32} (h : sX X cc own nL fr lo) (hi : vp_in i 8) (d : decode cc pc = .ok (.aaload, 1)) (kk : sW X nL cs σ (pc + 1) L (.ref (sad X (4 + 5 * i.toNatClampNeg)) :: st)) : sW X nL cs σ pc L (.int i :: .ref (sad X 2) :: st) := by
  obtain ⟨p, l, e, R, s, m, args, below, meth, c, D, cA, ad, A, Q⟩ := X
  obtain ⟨⟨hx, hb, hml, hown, hts⟩, hfr, hlo, ⟨hK, hij, hAd, hst⟩, hxt, hnew, hlk⟩ := h
  intro H locs ls hP hS hl
  have hr : ∀ b, b < 8 → [4, 9, 14, 19, 24, 29, 34, 39].getD b 0 = 4 + 5 * b := by decide
  refine va_aldq hx hb hK hP 2 2 (WSg_at SH_2) rfl hi d ?_
  show W p l e R s m args below meth c H locs cs.1 cs.2 Q (F0 m (pc + 1) ls (.ref (ad ([4, 9, 14, 19, 24, 29, 34, 39].getD i.toNatClampNeg 0)) :: st))
  rw [hr _ (vp_lt hi)]
  exact kk H locs ls hP hS hl
theorem s_aaldS {X : sT} {cc : ByteArray} {own : String} {nL fr lo : Nat} {cs : Nat × Nat} {σ : Mm} {pc : Nat} {L : List (Option Value)} {st : List Value} {i : Int32} (h : sX X cc own nL fr lo) (hi : vp_in i 8) (d : decode cc pc = .ok (.aaload, 1)) (kk : sW X nL cs σ (pc + 1) L (.ref (sad X (47 + 5 * i.toNatClampNeg)) :: st)) : sW X nL cs σ pc L (.int i :: .ref (sad X 45) :: st) := by
  obtain ⟨p, l, e, R, s, m, args, below, meth, c, D, cA, ad, A, Q⟩ := X
  obtain ⟨⟨hx, hb, hml, hown, hts⟩, hfr, hlo, ⟨hK, hij, hAd, hst⟩, hxt, hnew, hlk⟩ := h
  intro H locs ls hP hS hl
  have hr : ∀ b, b < 8 → [47, 52, 57, 62, 67, 72, 77, 82].getD b 0 = 47 + 5 * b := by decide
  refine va_aldq hx hb hK hP 45 2 (WSg_at SH_45) rfl hi d ?_
  show W p l e R s m args below meth c H locs cs.1 cs.2 Q (F0 m (pc + 1) ls (.ref (ad ([47, 52, 57, 62, 67, 72, 77, 82].getD i.toNatClampNeg 0)) :: st))
  rw [hr _ (vp_lt hi)]
  exact kk H locs ls hP hS hl
theorem s_copy {X : sT} {cc : ByteArray} {own : String} {nL fr lo : Nat} {cs : Nat × Nat} {σ : Mm} {pc : Nat} {L : List (Option Value)} {st : List Value} {k0 k1 n0 n1 index : Nat} {sp dp n : Int32} (h : sX X cc own nL fr lo) (hk0 : SH[k0]? = some (0, 0, n0, [])) (hk1 : SH[k1]? = some (0, 0, n1, [])) (hw : Cond.methodLink own index arraycopyName ∈ GW) (h1 : ¬ sp < 0 ∧ ¬ dp < 0 ∧ ¬ n < 0 ∧ sp.toNatClampNeg + n.toNatClampNeg ≤ n0 ∧ dp.toNatClampNeg + n.toNatClampNeg ≤ n1) (hfr1 : 1 ≤ fr) (hlo1 : (st.map fun v => v.category).sum + (nativeFrameWords "java/lang/System" "arraycopy" 5 + 11) ≤ lo) (d : decode cc pc = .ok (.invokestatic index, 3)) (kk : sW X nL cs (upm σ k1 (va_cpy (σ k0) (σ k1) sp.toNatClampNeg dp.toNatClampNeg n.toNatClampNeg)) (pc + 3) L (st)) : sW X nL cs σ pc L (.int n :: .int dp :: .ref (sad X k1) :: .int sp :: .ref (sad X k0) :: st) := by
  obtain ⟨p, l, e, R, s, m, args, below, meth, c, D, cA, ad, A, Q⟩ := X
  obtain ⟨⟨hx, hb, hml, hown, hts⟩, hfr, hlo, ⟨hK, hij, hAd, hst⟩, hxt, hnew, hlk⟩ := h
  intro H locs ls hP hS hl
  exact va_copyi hx hb (hml.trans hl.1.1.symm) hown (hts _ hw) (hts _ w3_82) (hts _ w3_81) (hts _ w1_26) hK hP (WSg_D σ hij hAd) hS k0 k1 0 0 (WSg_at hk0) (WSg_at hk1) rfl rfl rfl h1.1 h1.2.1 h1.2.2.1 h1.2.2.2.1 h1.2.2.2.2 (fun _ _ => rfl) (Nat.le_trans hfr1 hfr) (Nat.le_trans hlo1 hlo) d (fun H1 locs1 hP1 _ hS1 => kk H1 locs1 ls (P_set hk1 hP1 rfl) hS1 hl)
def mx (x y : Int32) : Int32 := if x < y then y else x
theorem s_max {X : sT} {cc : ByteArray} {own : String} {nL fr lo : Nat} {cs : Nat × Nat} {σ : Mm} {pc : Nat} {L : List (Option Value)} {st : List Value} {index : Nat} {x y : Int32} (h : sX X cc own nL fr lo) (hw : Cond.methodLink own index Lib.Math.max.name ∈ GW) (hfr1 : 1 ≤ fr) (hlo1 : (st.map fun v => v.category).sum + 13 ≤ lo) (hcs : cs.1 ≤ (sR X).cells ∧ cs.2 ≤ (sR X).slots) (d : decode cc pc = .ok (.invokestatic index, 3)) (kk : sW X nL cs σ (pc + 3) L (.int (mx x y) :: st)) : sW X nL cs σ pc L (.int y :: .int x :: st) := by
  obtain ⟨p, l, e, R, s, m, args, below, meth, c, D, cA, ad, A, Q⟩ := X
  obtain ⟨⟨hx, hb, hml, hown, hts⟩, hfr, hlo, ⟨hK, hij, hAd, hst⟩, hxt, hnew, hlk⟩ := h
  intro H locs ls hP hS hl
  exact va_mmax hx hb (hml.trans hl.1.1.symm) hown (hts _ hw) (hts _ w3_24) (hts _ w1_23) (hts _ w3_25) (Nat.le_trans hfr1 hfr) (Nat.le_trans hlo1 hlo) hcs.1 hcs.2 d (kk H locs ls hP hS hl)
theorem c_enterI {l : Launch} {y : MethodName} {cc : ByteArray} {nL : Nat} {rt : FieldType} {fr lo : Nat} {av : (Nat → Nat) → List Value} {σ : Mm} {r : Int32} {σ' : Mm} (L : (Nat → Nat) → List (Option Value)) (hy : plainName y.cls = true) (hav : ∀ ad, (∀ v ∈ av ad, v.category = 1) ∧ (lg_sl (av ad)).length ≤ nL) (hL : ∀ ad, ∃ j, L ad = (av ad).map some ++ List.replicate j none)
    (body : ∀ X : sT, sl X = l → sX X cc y.cls nL fr lo → (∀ pc L, narrow rt (.int r) = .int r → decode cc pc = .ok (.ireturn, 1) → sW X nL (0, 0) σ' pc L [.int r]) → sW X nL (0, 0) σ 0 (L (sad X)) []) : cI l y cc nL rt fr lo av σ r σ' := by
  intro D cA ad A
  refine Met.ofW (cc := cc) (maxL := nL) (ret := some rt) hy rfl ?_
  intro p e s m args below meth c s₁ B hml hv
  obtain ⟨rfl, hP, hI, hxt, hnew⟩ := hv
  have hts0 := atoms_spec (ws := Cond.code y cc nL (some rt) :: GW) B.pre
  have hown : s.vm.findClass y.cls = some m.cls := findClass_of_methodNamed B.named
  obtain ⟨j, hj⟩ := hL ad
  have hl := loc_entry (av ad) (j := j) (hav ad).1 (hav ad).2
  rw [← hj] at hl
  rw [lg_entry_eq]
  refine body (p, l, e, (headSpec (Cond.code y cc nL (some rt) :: GW) (rmF fr lo)).room, s, m, (av ad).toArray, below, meth, c, D, cA, ad, A, _) rfl ⟨⟨B.exec, B.bytes, hml, hown, fun w hw => hts0 w (List.mem_cons_of_mem _ hw)⟩, Nat.le_refl _, Nat.le_refl _, hI, hxt, hnew, B.notSynchronized⟩ ?_ s.heap [] _ hP va_S.rf hl
  intro pc L hn hd H locs ls hP1 hS1 hl1
  exact W.zret B.exec B.bytes B.returns hn (fun t ht hW => ⟨⟨r, (), rfl, rfl, by rw [ht]; exact hP1, ⟨va_K.moved hW.alike hI.1, hI.2.1, hI.2.2.1, hI.2.2.2.warm hW⟩, by rw [ht]; exact hxt.go hS1 hW.alike, fun q hq => hnew q (Nat.le_trans hS1.1 (by rw [← ht]; exact hq))⟩, hS1.F ht⟩) (fun q hq => hS1.2.2 q hq) hd (hlocks := B.notSynchronized)
theorem c_enterV {l : Launch} {y : MethodName} {cc : ByteArray} {nL : Nat} {fr lo : Nat} {av : (Nat → Nat) → List Value} {σ : Mm} {σ' : Mm} (L : (Nat → Nat) → List (Option Value)) (hy : plainName y.cls = true) (hav : ∀ ad, (∀ v ∈ av ad, v.category = 1) ∧ (lg_sl (av ad)).length ≤ nL) (hL : ∀ ad, ∃ j, L ad = (av ad).map some ++ List.replicate j none)
    (body : ∀ X : sT, sl X = l → sX X cc y.cls nL fr lo → (∀ pc L, decode cc pc = .ok (.return_, 1) → sW X nL (0, 0) σ' pc L []) → sW X nL (0, 0) σ 0 (L (sad X)) []) : cV l y cc nL fr lo av σ σ' := by
  intro D cA ad A
  refine Met.ofW (cc := cc) (maxL := nL) (ret := none) hy rfl ?_
  intro p e s m args below meth c s₁ B hml hv
  obtain ⟨rfl, hP, hI, hxt, hnew⟩ := hv
  have hts0 := atoms_spec (ws := Cond.code y cc nL none :: GW) B.pre
  have hown : s.vm.findClass y.cls = some m.cls := findClass_of_methodNamed B.named
  obtain ⟨j, hj⟩ := hL ad
  have hl := loc_entry (av ad) (j := j) (hav ad).1 (hav ad).2
  rw [← hj] at hl
  rw [lg_entry_eq]
  refine body (p, l, e, (headSpec (Cond.code y cc nL none :: GW) (rmF fr lo)).room, s, m, (av ad).toArray, below, meth, c, D, cA, ad, A, _) rfl ⟨⟨B.exec, B.bytes, hml, hown, fun w hw => hts0 w (List.mem_cons_of_mem _ hw)⟩, Nat.le_refl _, Nat.le_refl _, hI, hxt, hnew, B.notSynchronized⟩ ?_ s.heap [] _ hP va_S.rf hl
  intro pc L hd H locs ls hP1 hS1 hl1
  exact W.vret B.exec B.bytes B.returns (fun t ht hW => ⟨⟨(), rfl, trivial, by rw [ht]; exact hP1, ⟨va_K.moved hW.alike hI.1, hI.2.1, hI.2.2.1, hI.2.2.2.warm hW⟩, by rw [ht]; exact hxt.go hS1 hW.alike, fun q hq => hnew q (Nat.le_trans hS1.1 (by rw [← ht]; exact hq))⟩, hS1.F ht⟩) (fun q hq => hS1.2.2 q hq) hd (hlocks := B.notSynchronized)
theorem wr_of {D : va_G} {cA : Nat → ClassId} {ad : Nat → Nat} {A : Nat → Prop} {σ : Mm} {s U : State} {H : Heap} {locs : List Loc} (hI : inv D cA ad A s) (hxt : xtra ad A s s.heap) (hnew : ∀ q, s.heap.size ≤ q → A q) (hP : va_P D CL (WS cA ad σ) H) (hS : va_S A s.heap H locs) (hU : U.heap = H) (hW : s.WarmedH U.vm) : wrld D cA ad A σ U :=
  ⟨by rw [hU]; exact hP, ⟨va_K.moved hW.alike hI.1, hI.2.1, hI.2.2.1, hI.2.2.2.warm hW⟩, by rw [hU]; exact hxt.go hS hW.alike, fun q hq => hnew q (Nat.le_trans hS.1 (by rw [← hU]; exact hq))⟩
/-- the words of a static call, of a method's own kind -/
def mS (own : String) (index : Nat) (y : MethodName) (cc : ByteArray) (nL : Nat) (rt : Option FieldType) (n : Nat) : Prop := Cond.code y cc nL rt ∈ GW ∧ Cond.initialized y.cls ∈ GW ∧ (Cond.methodLink own index y ∈ GW ∨ ∃ host, Cond.methodLinkNest own index y host ∈ NW) ∧ Cond.static y ∈ GW ∧ y.cls ≠ "java/lang/invoke/MethodHandle" ∧ y.cls ≠ "java/lang/invoke/VarHandle" ∧ (parseMethodDescriptor y.desc).map (fun d => d.parameters.length) = some n
/-- of a virtual one: the receiver's class ci; the method found by its name, or by one above -/
def mV (own : String) (index : Nat) (ci : Nat) (y : MethodName) (cc : ByteArray) (nL : Nat) (rt : Option FieldType) (n : Nat) : Prop := ∃ (C : String) (T : u_T) (N : Nat), CL[ci]? = some (C, T, N) ∧ Cond.code y cc nL rt ∈ GW ∧ Cond.initialized y.cls ∈ GW ∧ Cond.instanceMethod y ∈ GW ∧
  ((y.cls = C ∧ Cond.methodLink own index y ∈ GW ∧ Cond.selects C y y ∈ GW ∧ y.cls ≠ "java/lang/invoke/MethodHandle" ∧ y.cls ≠ "java/lang/invoke/VarHandle" ∧ (parseMethodDescriptor y.desc).map (fun d => d.parameters.length) = some n) ∨
   ∃ (x : MethodName) (owner : String), Cond.methodLink own index x ∈ GW ∧ Cond.sameMethod x.cls owner x.name x.desc ∈ GW ∧ Cond.selects C x y ∈ GW ∧ (y = ⟨owner, x.name, x.desc⟩ ∨ Cond.declares ⟨owner, x.name, x.desc⟩ ∈ NW) ∧ owner ≠ "java/lang/invoke/MethodHandle" ∧ owner ≠ "java/lang/invoke/VarHandle" ∧ (parseMethodDescriptor x.desc).map (fun d => d.parameters.length) = some n)
theorem s_callSI {X : sT} {cc : ByteArray} {own : String} {nL fr lo : Nat} {cs : Nat × Nat} {σ : Mm} {pc : Nat} {L : List (Option Value)} {st : List Value} {y : MethodName} {cc' : ByteArray} {nL' fr' lo' index n : Nat} {rt : FieldType} {r : Int32} {σ' : Mm} {s0 : List Value} (av : (Nat → Nat) → List Value) (h : sX X cc own nL fr lo) (hC : cI (sl X) y cc' nL' rt fr' lo' av σ r σ') (hw : mS own index y cc' nL' (some rt) n) (hn : ∀ ad, (av ad).length = n) (hrm : fr' + 1 ≤ fr ∧ 8 + (nL' + 11) + lo' ≤ lo) (hst : (st.map fun v => v.category).sum ≤ 8) (hcs : cs.1 ≤ (sR X).cells ∧ cs.2 ≤ (sR X).slots) (d : decode cc pc = .ok (.invokestatic index, 3)) (hs0 : s0 = (av (sad X)).reverse ++ st) (kk : sW X nL cs σ' (pc + 3) L (.int r :: st)) : sW X nL cs σ pc L s0 := by
  obtain ⟨p, l, e, R, s, m, args, below, meth, c, D, cA, ad, A, Q⟩ := X
  obtain ⟨⟨hx, hb, hml, hown, hts⟩, hfr, hlo, hI, hxt, hnew, hlk⟩ := h
  intro H locs ls hP hS hl
  subst hs0
  obtain ⟨w1, w2, w3, w4, w5, w6, w7⟩ := hw
  have hR : (rmF fr' lo').frames + 1 ≤ R.frames ∧ 8 + (nL' + 11) + (rmF fr' lo').locals ≤ R.locals := ⟨Nat.le_trans hrm.1 hfr, Nat.le_trans hrm.2 hlo⟩
  have hM := hC D cA ad A
  have hpre : PreS s H (va_Pc (av ad) (wrld D cA ad A σ)) (av ad) := ⟨wrld.blind _, fun U hU hW => ⟨rfl, wr_of hI hxt hnew hP hS hU hW⟩⟩
  have hrun : va_Run p l e R s m args below meth c H locs cs.1 cs.2 0 0 (F0 m pc ls ((av ad).reverse ++ st)) st (va_Qi (fun x (_ : Unit) => x = r) (fun _ t => wrld D cA ad A σ' t) A (av ad).toArray) A := by
    rcases w3 with w3 | ⟨host, w3⟩
    · exact va_runS (As := av ad) (rest := st) ⟨hx, hb, hml, hown, hts⟩ hM ⟨callB_of n hts (gw_cons w1) rfl rfl rfl (hts _ w2) (hts _ w3) ⟨w5, w6, w7⟩ hR, hts _ w4⟩ hpre rfl (hn ad) hl.1.1 rfl (lv_room hst) d hcs
    · exact va_runSN (As := av ad) (rest := st) ⟨hx, hb, hml, hown, hts⟩ hM ⟨va_cnB (host := host) n hts (gw_cons w1) rfl rfl rfl (hI.2.2.2.1 _ w3) (hts _ w2) ⟨w5, w6, w7⟩ hR, hts _ w4, trivial⟩ hpre rfl (hn ad) hl.1.1 rfl (lv_room hst) d hcs
  refine va_calli hrun hS (fun q _ h => h) (fun q h => h) (fun r1 u t H1 locs1 ht hvm hw hB hz1 hk1 hS1 => ?_)
  subst hw
  exact kk H1 locs1 ls (by rw [← ht]; exact hB.1) hS1 hl
theorem s_callSV {X : sT} {cc : ByteArray} {own : String} {nL fr lo : Nat} {cs : Nat × Nat} {σ : Mm} {pc : Nat} {L : List (Option Value)} {st : List Value} {y : MethodName} {cc' : ByteArray} {nL' fr' lo' index n : Nat}  {σ' : Mm} {s0 : List Value} (av : (Nat → Nat) → List Value) (h : sX X cc own nL fr lo) (hC : cV (sl X) y cc' nL' fr' lo' av σ σ') (hw : mS own index y cc' nL' none n) (hn : ∀ ad, (av ad).length = n) (hrm : fr' + 1 ≤ fr ∧ 8 + (nL' + 11) + lo' ≤ lo) (hst : (st.map fun v => v.category).sum ≤ 8) (hcs : cs.1 ≤ (sR X).cells ∧ cs.2 ≤ (sR X).slots) (d : decode cc pc = .ok (.invokestatic index, 3)) (hs0 : s0 = (av (sad X)).reverse ++ st) (kk : sW X nL cs σ' (pc + 3) L (st)) : sW X nL cs σ pc L s0 := by
  obtain ⟨p, l, e, R, s, m, args, below, meth, c, D, cA, ad, A, Q⟩ := X
  obtain ⟨⟨hx, hb, hml, hown, hts⟩, hfr, hlo, hI, hxt, hnew, hlk⟩ := h
  intro H locs ls hP hS hl
  subst hs0
  obtain ⟨w1, w2, w3, w4, w5, w6, w7⟩ := hw
  have hR : (rmF fr' lo').frames + 1 ≤ R.frames ∧ 8 + (nL' + 11) + (rmF fr' lo').locals ≤ R.locals := ⟨Nat.le_trans hrm.1 hfr, Nat.le_trans hrm.2 hlo⟩
  have hM := hC D cA ad A
  have hpre : PreS s H (va_Pc (av ad) (wrld D cA ad A σ)) (av ad) := ⟨wrld.blind _, fun U hU hW => ⟨rfl, wr_of hI hxt hnew hP hS hU hW⟩⟩
  have hrun : va_Run p l e R s m args below meth c H locs cs.1 cs.2 0 0 (F0 m pc ls ((av ad).reverse ++ st)) st (va_Qv (fun (_ : Unit) => True) (fun _ t => wrld D cA ad A σ' t) A (av ad).toArray) A := by
    rcases w3 with w3 | ⟨host, w3⟩
    · exact va_runS (As := av ad) (rest := st) ⟨hx, hb, hml, hown, hts⟩ hM ⟨callB_of n hts (gw_cons w1) rfl rfl rfl (hts _ w2) (hts _ w3) ⟨w5, w6, w7⟩ hR, hts _ w4⟩ hpre rfl (hn ad) hl.1.1 rfl (lv_room hst) d hcs
    · exact va_runSN (As := av ad) (rest := st) ⟨hx, hb, hml, hown, hts⟩ hM ⟨va_cnB (host := host) n hts (gw_cons w1) rfl rfl rfl (hI.2.2.2.1 _ w3) (hts _ w2) ⟨w5, w6, w7⟩ hR, hts _ w4, trivial⟩ hpre rfl (hn ad) hl.1.1 rfl (lv_room hst) d hcs
  refine va_callv hrun hS (fun q _ h => h) (fun q h => h) (fun u t H1 locs1 ht hvm hw hB hz1 hk1 hS1 => ?_)
  exact kk H1 locs1 ls (by rw [← ht]; exact hB.1) hS1 hl
theorem s_callVI {X : sT} {cc : ByteArray} {own : String} {nL fr lo : Nat} {cs : Nat × Nat} {σ : Mm} {pc : Nat} {L : List (Option Value)} {st : List Value} {y : MethodName} {cc' : ByteArray} {nL' fr' lo' index n ci N k : Nat} {rs : List Nat} {rt : FieldType} {r : Int32} {σ' : Mm} {s0 : List Value} (av0 : (Nat → Nat) → List Value) (h : sX X cc own nL fr lo) (hC : cI (sl X) y cc' nL' rt fr' lo' (fun ad => .ref (ad k) :: av0 ad) σ r σ') (hk : SH[k]? = some (1, ci, N, rs)) (hw : mV own index ci y cc' nL' (some rt) n) (hn : ∀ ad, (av0 ad).length = n) (hrm : fr' + 1 ≤ fr ∧ 8 + (nL' + 11) + lo' ≤ lo) (hst : (st.map fun v => v.category).sum ≤ 8) (hcs : cs.1 ≤ (sR X).cells ∧ cs.2 ≤ (sR X).slots) (d : decode cc pc = .ok (.invokevirtual index, 3)) (hs0 : s0 = (av0 (sad X)).reverse ++ .ref (sad X k) :: st) (kk : sW X nL cs σ' (pc + 3) L (.int r :: st)) : sW X nL cs σ pc L s0 := by
  obtain ⟨p, l, e, R, s, m, args, below, meth, c, D, cA, ad, A, Q⟩ := X
  obtain ⟨⟨hx, hb, hml, hown, hts⟩, hfr, hlo, hI, hxt, hnew, hlk⟩ := h
  intro H locs ls hP hS hl
  subst hs0
  obtain ⟨C, T, N', hc, w1, w2, w3, hsel⟩ := hw
  have hR : (rmF fr' lo').frames + 1 ≤ R.frames ∧ 8 + (nL' + 11) + (rmF fr' lo').locals ≤ R.locals := ⟨Nat.le_trans hrm.1 hfr, Nat.le_trans hrm.2 hlo⟩
  have hM := hC D cA ad A
  have hpre : PreV s H C (ad k) (va_Pc (.ref (ad k) :: av0 ad) (wrld D cA ad A σ)) (av0 ad) := ⟨wrld.blind _, va_recv hI.1 hP (ci := ci) (q0 := k) hc (WSg_at hk), fun U hU hW => ⟨rfl, wr_of hI hxt hnew hP hS hU hW⟩⟩
  have hrun : va_Run p l e R s m args below meth c H locs cs.1 cs.2 0 0 (F0 m pc ls ((av0 ad).reverse ++ .ref (ad k) :: st)) st (va_Qi (fun x (_ : Unit) => x = r) (fun _ t => wrld D cA ad A σ' t) A (Value.ref (ad k) :: av0 ad).toArray) A := by
    rcases hsel with ⟨rfl, w5, w6, w7, w8, w9⟩ | ⟨x, owner, w5, w6, w7, w8, w9, w10, w11⟩
    · exact va_runV (As := av0 ad) (rest := st) ⟨hx, hb, hml, hown, hts⟩ hM ⟨callB_of n hts (gw_cons w1) rfl rfl rfl (hts _ w2) (hts _ w5) ⟨w7, w8, w9⟩ hR, hts _ w3, hts _ w6⟩ hpre rfl (hn ad) hl.1.1 rfl (lv_room hst) d hcs
    · have hG : GoodIn GW (va_wsU own index C owner x y (.code y cc' nL' (some rt) :: GW)) := gw_goodIn (fun w hw => by
        unfold va_wsU at hw
        rcases List.mem_append.mp hw with hw | hw
        · simp only [List.mem_cons, List.not_mem_nil, or_false] at hw
          rcases hw with rfl | rfl | rfl | rfl | rfl
          · exact w5
          · exact w6
          · exact w7
          · exact w3
          · exact w2
        · exact ((gw_cons w1) w hw).1)
      rcases w8 with w8 | w8
      · exact va_runU (As := av0 ad) (rest := st) ⟨hx, hb, hml, hown, hts⟩ hM (va_cwU n hts hG rfl rfl rfl w8 ⟨w9, w10, w11⟩ hR) hpre rfl (hn ad) hl.1.1 rfl (lv_room hst) d hcs
      · exact va_runU (As := av0 ad) (rest := st) ⟨hx, hb, hml, hown, hts⟩ hM (va_cwA n hts hG rfl rfl rfl (hI.2.2.2.1 _ w8) ⟨w9, w10, w11⟩ hR) hpre rfl (hn ad) hl.1.1 rfl (lv_room hst) d hcs
  refine va_calli hrun hS (fun q _ h => h) (fun q h => h) (fun r1 u t H1 locs1 ht hvm hw hB hz1 hk1 hS1 => ?_)
  subst hw
  exact kk H1 locs1 ls (by rw [← ht]; exact hB.1) hS1 hl
theorem s_callVV {X : sT} {cc : ByteArray} {own : String} {nL fr lo : Nat} {cs : Nat × Nat} {σ : Mm} {pc : Nat} {L : List (Option Value)} {st : List Value} {y : MethodName} {cc' : ByteArray} {nL' fr' lo' index n ci N k : Nat} {rs : List Nat}  {σ' : Mm} {s0 : List Value} (av0 : (Nat → Nat) → List Value) (h : sX X cc own nL fr lo) (hC : cV (sl X) y cc' nL' fr' lo' (fun ad => .ref (ad k) :: av0 ad) σ σ') (hk : SH[k]? = some (1, ci, N, rs)) (hw : mV own index ci y cc' nL' none n) (hn : ∀ ad, (av0 ad).length = n) (hrm : fr' + 1 ≤ fr ∧ 8 + (nL' + 11) + lo' ≤ lo) (hst : (st.map fun v => v.category).sum ≤ 8) (hcs : cs.1 ≤ (sR X).cells ∧ cs.2 ≤ (sR X).slots) (d : decode cc pc = .ok (.invokevirtual index, 3)) (hs0 : s0 = (av0 (sad X)).reverse ++ .ref (sad X k) :: st) (kk : sW X nL cs σ' (pc + 3) L (st)) : sW X nL cs σ pc L s0 := by
  obtain ⟨p, l, e, R, s, m, args, below, meth, c, D, cA, ad, A, Q⟩ := X
  obtain ⟨⟨hx, hb, hml, hown, hts⟩, hfr, hlo, hI, hxt, hnew, hlk⟩ := h
  intro H locs ls hP hS hl
  subst hs0
  obtain ⟨C, T, N', hc, w1, w2, w3, hsel⟩ := hw
  have hR : (rmF fr' lo').frames + 1 ≤ R.frames ∧ 8 + (nL' + 11) + (rmF fr' lo').locals ≤ R.locals := ⟨Nat.le_trans hrm.1 hfr, Nat.le_trans hrm.2 hlo⟩
  have hM := hC D cA ad A
  have hpre : PreV s H C (ad k) (va_Pc (.ref (ad k) :: av0 ad) (wrld D cA ad A σ)) (av0 ad) := ⟨wrld.blind _, va_recv hI.1 hP (ci := ci) (q0 := k) hc (WSg_at hk), fun U hU hW => ⟨rfl, wr_of hI hxt hnew hP hS hU hW⟩⟩
  have hrun : va_Run p l e R s m args below meth c H locs cs.1 cs.2 0 0 (F0 m pc ls ((av0 ad).reverse ++ .ref (ad k) :: st)) st (va_Qv (fun (_ : Unit) => True) (fun _ t => wrld D cA ad A σ' t) A (Value.ref (ad k) :: av0 ad).toArray) A := by
    rcases hsel with ⟨rfl, w5, w6, w7, w8, w9⟩ | ⟨x, owner, w5, w6, w7, w8, w9, w10, w11⟩
    · exact va_runV (As := av0 ad) (rest := st) ⟨hx, hb, hml, hown, hts⟩ hM ⟨callB_of n hts (gw_cons w1) rfl rfl rfl (hts _ w2) (hts _ w5) ⟨w7, w8, w9⟩ hR, hts _ w3, hts _ w6⟩ hpre rfl (hn ad) hl.1.1 rfl (lv_room hst) d hcs
    · have hG : GoodIn GW (va_wsU own index C owner x y (.code y cc' nL' none :: GW)) := gw_goodIn (fun w hw => by
        unfold va_wsU at hw
        rcases List.mem_append.mp hw with hw | hw
        · simp only [List.mem_cons, List.not_mem_nil, or_false] at hw
          rcases hw with rfl | rfl | rfl | rfl | rfl
          · exact w5
          · exact w6
          · exact w7
          · exact w3
          · exact w2
        · exact ((gw_cons w1) w hw).1)
      rcases w8 with w8 | w8
      · exact va_runU (As := av0 ad) (rest := st) ⟨hx, hb, hml, hown, hts⟩ hM (va_cwU n hts hG rfl rfl rfl w8 ⟨w9, w10, w11⟩ hR) hpre rfl (hn ad) hl.1.1 rfl (lv_room hst) d hcs
      · exact va_runU (As := av0 ad) (rest := st) ⟨hx, hb, hml, hown, hts⟩ hM (va_cwA n hts hG rfl rfl rfl (hI.2.2.2.1 _ w8) ⟨w9, w10, w11⟩ hR) hpre rfl (hn ad) hl.1.1 rfl (lv_room hst) d hcs
  refine va_callv hrun hS (fun q _ h => h) (fun q h => h) (fun u t H1 locs1 ht hvm hw hB hz1 hk1 hS1 => ?_)
  exact kk H1 locs1 ls (by rw [← ht]; exact hB.1) hS1 hl
