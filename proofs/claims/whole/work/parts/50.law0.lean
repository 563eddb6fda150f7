/-! the law's own rows: the long it hands answers through; methods with handlers -/
theorem upL {f : Nat → Int32} {k : Nat} {v : Int32} : vp_updL (fun i => (f i).toInt64) k v.toInt64 = fun i => (upd f k v i).toInt64 := by
  funext i
  unfold vp_updL upd
  split <;> rfl
theorem s_last {X : sT} {cc : ByteArray} {own : String} {nL fr lo : Nat} {cs : Nat × Nat} {σ : Mm} {pc : Nat} {L : List (Option Value)} {st : List Value} {v i : Int32} (h : sX X cc own nL fr lo) (hi : vp_in i 1) (d : decode cc pc = .ok (.lastore, 1)) (kk : sW X nL cs (upm σ 170 (upd (σ 170) i.toNatClampNeg v)) (pc + 1) L st) : sW X nL cs σ pc L (.long v.toInt64 :: .int i :: .ref (sad X 170) :: st) := by
  obtain ⟨p, l, e, R, s, m, args, below, meth, c, D, cA, ad, A, Q⟩ := X
  obtain ⟨⟨hx, hb, hml, hown, hts⟩, hfr, hlo, ⟨hK, hij, hAd, hst⟩, hxt, hnew, hlk⟩ := h
  intro H locs ls hP hS hl
  exact va_last hx hb hK hP (WSg_D σ hij hAd) hS 170 3 (WSg_at SH_170) rfl hi d (fun H1 locs1 hP1 _ hS1 => kk H1 locs1 ls (P_set SH_170 hP1 (by rw [upL]; rfl)) hS1 hl)
theorem s_lald {X : sT} {cc : ByteArray} {own : String} {nL fr lo : Nat} {cs : Nat × Nat} {σ : Mm} {pc : Nat} {L : List (Option Value)} {st : List Value} {i : Int32} (h : sX X cc own nL fr lo) (hi : vp_in i 1) (d : decode cc pc = .ok (.laload, 1)) (kk : sW X nL cs σ (pc + 1) L (.long (σ 170 i.toNatClampNeg).toInt64 :: st)) : sW X nL cs σ pc L (.int i :: .ref (sad X 170) :: st) := by
  obtain ⟨p, l, e, R, s, m, args, below, meth, c, D, cA, ad, A, Q⟩ := X
  obtain ⟨⟨hx, hb, hml, hown, hts⟩, hfr, hlo, ⟨hK, hij, hAd, hst⟩, hxt, hnew, hlk⟩ := h
  intro H locs ls hP hS hl
  exact va_lald hx hb hK hP 170 3 (WSg_at SH_170) rfl hi d (kk H locs ls hP hS hl)
theorem s_lcmp {X : sT} {cc : ByteArray} {own : String} {nL fr lo : Nat} {cs : Nat × Nat} {σ : Mm} {pc : Nat} {L : List (Option Value)} {st : List Value} {a b : Int64} (h : sX X cc own nL fr lo) (d : decode cc pc = .ok (.lcmp, 1)) (kk : sW X nL cs σ (pc + 1) L (.int (lg_cmp a b) :: st)) : sW X nL cs σ pc L (.long b :: .long a :: st) := by
  obtain ⟨p, l, e, R, s, m, args, below, meth, c, D, cA, ad, A, Q⟩ := X
  obtain ⟨⟨hx, hb, hml, hown, hts⟩, hfr, hlo, ⟨hK, hij, hAd, hst⟩, hxt, hnew, hlk⟩ := h
  intro H locs ls hP hS hl
  exact W.lcmp hx hb d (kk H locs ls hP hS hl)
def ncs (U : State) : Prop := ∀ a b, 1 ≤ a → a ≤ 6 → 1 ≤ b → b ≤ 6 → a ≠ b → va_Nc (xname a) (xname b) U
def sNc (X : sT) : Prop := ncs X.2.2.2.2.1
def sTab (X : sT) (hh : List (Nat × Nat × Nat × Nat)) : Prop := X.2.2.2.2.2.2.2.2.2.1.exceptionTable.toList = tableOf hh
def cL (l : Launch) (y : MethodName) (cc : ByteArray) (nL : Nat) (hh : List (Nat × Nat × Nat × Nat)) (fr lo : Nat) (av : (Nat → Nat) → List Value) (σ : Mm) (r : Int32) (σ' : Mm) : Prop :=
  ∀ (D : va_G) (cA : Nat → ClassId) (ad : Nat → Nat) (A : Nat → Prop), vx_Met l y (.codeWith y cc nL (some .int) hh :: GW) (rmT fr lo) (va_Pc (av ad) (fun U => wrld D cA ad A σ U ∧ ncs U)) (va_Qi (fun x (_ : Unit) => x = r) (fun _ t => wrld D cA ad A σ' t) A) (vx_X (fun (_ : Unit) => False) (fun _ _ _ => True) A) 1 6 A
theorem c_enterL {l : Launch} {y : MethodName} {cc : ByteArray} {nL : Nat} {hh : List (Nat × Nat × Nat × Nat)} {fr lo : Nat} {av : (Nat → Nat) → List Value} {σ : Mm} {r : Int32} {σ' : Mm} (L : (Nat → Nat) → List (Option Value)) (hy : plainName y.cls = true) (hav : ∀ ad, (∀ v ∈ av ad, v.category = 1) ∧ (lg_sl (av ad)).length ≤ nL) (hL : ∀ ad, ∃ j, L ad = (av ad).map some ++ List.replicate j none)
    (body : ∀ X : sT, sl X = l → sX X cc y.cls nL fr lo → ((0 : Nat) + 1 ≤ (sR X).cells ∧ (0 : Nat) + 6 ≤ (sR X).slots) → sNc X → sTab X hh → (∀ (cs : Nat × Nat) pc L, cs.1 ≤ 1 → cs.2 ≤ 6 → decode cc pc = .ok (.ireturn, 1) → sW X nL cs σ' pc L [.int r]) → sW X nL (0, 0) σ 0 (L (sad X)) []) : cL l y cc nL hh fr lo av σ r σ' := by
  intro D cA ad A
  refine vx_ofWH (cc := cc) (maxL := nL) (ret := some .int) (hh := hh) hy rfl ?_
  intro p env s m args below meth c s₁ B hml hv
  obtain ⟨rfl, ⟨hP, hI, hxt, hnew⟩, hnc⟩ := hv
  have hts0 := atoms_spec (ws := Cond.codeWith y cc nL (some .int) hh :: GW) B.pre
  have hts : ∀ w ∈ GW, w.before (av ad).toArray s = true := fun w hw => hts0 w (List.mem_cons_of_mem _ hw)
  have hown : s.vm.findClass y.cls = some m.cls := findClass_of_methodNamed B.named
  have htab := vx_table (x := y) B (hts0 _ List.mem_cons_self)
  obtain ⟨j, hj⟩ := hL ad
  have hl1 := loc_entry (av ad) (j := j) (hav ad).1 (hav ad).2
  rw [← hj] at hl1
  rw [lg_entry_eq]
  refine body (p, l, env, (headSpec (Cond.codeWith y cc nL (some .int) hh :: GW) (rmT fr lo)).room, s, m, (av ad).toArray, below, meth, c, D, cA, ad, A, _) rfl ⟨⟨B.exec, B.bytes, hml, hown, hts⟩, Nat.le_refl _, Nat.le_refl _, hI, hxt, hnew, B.notSynchronized⟩ ⟨Nat.le_refl _, Nat.le_refl _⟩ hnc htab ?_ s.heap [] _ hP va_S.rf hl1
  intro cs pc L h1 h2 hd H locs ls hP1 hS1 hl2
  refine vx_ret (W.widen h1 h2 ?_)
  exact W.iret B.exec B.bytes B.returns (fun t ht hW => ⟨⟨r, (), rfl, rfl, by rw [ht]; exact hP1, ⟨va_K.moved hW.alike hI.1, hI.2.1, hI.2.2.1, hI.2.2.2.warm hW⟩, by rw [ht]; exact hxt.go hS1 hW.alike, fun q hq => hnew q (Nat.le_trans hS1.1 (by rw [← ht]; exact hq))⟩, hS1.F ht⟩) (fun q hq => hS1.2.2 q hq) hd (hlocks := B.notSynchronized)
/-- a call that throws, caught by the handler x -/
theorem s_callCT {X : sT} {cc : ByteArray} {own : String} {nL fr lo : Nat} {cs : Nat × Nat} {σ : Mm} {pc : Nat} {L : List (Option Value)} {st : List Value} {y : MethodName} {cc' : ByteArray} {nL' fr' lo' index n ci N N' k e : Nat} {rs : List Nat} {C : String} {T : u_T} {rt : FieldType} {σ' : Mm} {s0 : List Value} {hh : List (Nat × Nat × Nat × Nat)} (av0 : (Nat → Nat) → List Value) (pre : List (Nat × Nat × Nat × Nat)) (x : Nat × Nat × Nat × Nat) (suf : List (Nat × Nat × Nat × Nat)) (h : sX X cc own nL fr lo) (hC : cTI (sl X) y cc' nL' rt fr' lo' (fun ad => .ref (ad k) :: av0 ad) σ e σ') (hk : SH[k]? = some (1, ci, N, rs)) (hc : CL[ci]? = some (C, T, N')) (hw : Cond.code y cc' nL' (some rt) ∈ GW ∧ Cond.initialized y.cls ∈ GW ∧ Cond.instanceMethod y ∈ GW ∧ Cond.methodLink own index y ∈ GW ∧ Cond.selects C y y ∈ GW ∧ y.cls ≠ "java/lang/invoke/MethodHandle" ∧ y.cls ≠ "java/lang/invoke/VarHandle" ∧ (parseMethodDescriptor y.desc).map (fun d => d.parameters.length) = some n) (hn : ∀ ad, (av0 ad).length = n) (hrm : fr' + 1 ≤ fr ∧ 8 + (nL' + 11) + lo' ≤ lo) (hst : (st.map fun v => v.category).sum ≤ 8) (hct : cs.1 + 1 ≤ (sR X).cells ∧ cs.2 + 6 ≤ (sR X).slots) (d : decode cc pc = .ok (.invokevirtual index, 3)) (hs0 : s0 = (av0 (sad X)).reverse ++ .ref (sad X k) :: st)
    (hnc : sNc X) (htab : sTab X hh) (hsp : hh = pre ++ x :: suf) (he : 1 ≤ e ∧ e ≤ 6) (hpass : ∀ z ∈ pre, z.2.2.2 ≠ 0 ∧ ∃ j, Cond.classLink own z.2.2.2 (xname j) ∈ GW ∧ 1 ≤ j ∧ j ≤ 6 ∧ e ≠ j) (hcov : covers ⟨x.1, x.2.1, x.2.2.1, x.2.2.2⟩ pc = true) (hx0 : x.2.2.2 ≠ 0) (hlk2 : Cond.classLink own x.2.2.2 (xname e) ∈ GW) (hcast : Cond.castable (xname e) (xname e) ∈ NW)
    (kk : ∀ q : Nat, sW X nL (cs.1 + 1, cs.2 + 6) σ' x.2.2.1 L [.ref q]) : sW X nL cs σ pc L s0 := by
  obtain ⟨p, l, env, R, s, m, args, below, meth, c, D, cA, ad, A, Q⟩ := X
  obtain ⟨⟨hx, hb, hml, hown, hts⟩, hfr, hlo, hI, hxt, hnew, hlk⟩ := h
  intro H locs ls hP hS hl
  subst hs0
  obtain ⟨w1, w2, w3, w5, w6, w7, w8, w9⟩ := hw
  have hR : (rmT fr' lo').frames + 1 ≤ R.frames ∧ 8 + (nL' + 11) + (rmT fr' lo').locals ≤ R.locals := ⟨Nat.le_trans hrm.1 hfr, Nat.le_trans hrm.2 hlo⟩
  have hM := hC D cA ad A
  have hpre : PreV s H C (ad k) (va_Pc (.ref (ad k) :: av0 ad) (wrld D cA ad A σ)) (av0 ad) := ⟨wrld.blind _, va_recv hI.1 hP (ci := ci) (q0 := k) hc (WSg_at hk), fun U hU hW => ⟨rfl, wr_of hI hxt hnew hP hS hU hW⟩⟩
  have hrun := vx_runV (As := av0 ad) (rest := st) (cells := cs.1) (slots := cs.2) (locs := locs) (g := F0 m pc ls ((av0 ad).reverse ++ .ref (ad k) :: st)) (p := p) (e := env) (below := below) (meth := meth) ⟨hx, hb, hml, hown, hts⟩ hM ⟨callB_of n hts (gw_cons w1) rfl rfl rfl (hts _ w2) (hts _ w5) ⟨w7, w8, w9⟩ hR, hts _ w3, hts _ w6⟩ hpre rfl (hn ad) hl.1.1 rfl (lv_room hst) d hct
  refine vx_calli hrun hS (fun q _ h => h) (fun q h => h) (fun q _ h => h) (fun E ce q9 u t H1 locs1 ht hvm _ hB hz1 hk1 hS1 hce hcv hcl => ?_) (fun r1 u t H1 locs1 ht hvm hw hB hz1 hk1 hS1 => hw.elim)
  obtain ⟨rfl, hP1⟩ := hB
  have htab' : c.exceptionTable.toList = tableOf pre ++ ⟨x.1, x.2.1, x.2.2.1, x.2.2.2⟩ :: tableOf suf := by
    have h9 : c.exceptionTable.toList = tableOf hh := htab
    rw [h9, hsp]
    simp [tableOf]
  refine vx_catch hown (tableOf pre) _ (tableOf suf) htab' (fun z hz => ?_) hcov hx0 (hts _ hlk2) (va_Nw.use rfl (hI.2.2.2.1 _ hcast)) hce hcv hcl (kk q9 H1 locs1 ls (by rw [← ht]; exact hP1) hS1 hl)
  obtain ⟨w, hw, rfl⟩ := List.mem_map.mp hz
  obtain ⟨z0, j, z1, z2, z3, z4⟩ := hpass w hw
  exact Or.inr ⟨z0, xname j, hts _ z1, hnc e j he.1 he.2 z2 z3 z4⟩
/-- a method's answer, as the law's own method hands it on -/
def lwH : List Nat → Int32 → Rx → Option (Int32 × Mm)
  | [], _, _ => none
  | e :: t, k, x => if x.1 = e then some (k, x.2.2) else lwH t (k + 1) x
def lwR (hs : List Nat) (x : Rx) : Option (Int32 × Mm) := if x.1 = 0 then some (0, upm x.2.2 170 (upd (x.2.2 170) 0 x.2.1)) else lwH hs 1 x
theorem s_callSL {X : sT} {cc : ByteArray} {own : String} {nL fr lo : Nat} {cs : Nat × Nat} {σ : Mm} {pc : Nat} {L : List (Option Value)} {st : List Value} {y : MethodName} {cc' : ByteArray} {nL' fr' lo' index n : Nat} {hh : List (Nat × Nat × Nat × Nat)} {r : Int32} {σ' : Mm} {s0 : List Value} (av : (Nat → Nat) → List Value) (h : sX X cc own nL fr lo) (hC : cL (sl X) y cc' nL' hh fr' lo' av σ r σ') (hw : Cond.codeWith y cc' nL' (some .int) hh ∈ GW ∧ Cond.initialized y.cls ∈ GW ∧ Cond.methodLink own index y ∈ GW ∧ Cond.static y ∈ GW ∧ y.cls ≠ "java/lang/invoke/MethodHandle" ∧ y.cls ≠ "java/lang/invoke/VarHandle" ∧ (parseMethodDescriptor y.desc).map (fun d => d.parameters.length) = some n) (hn : ∀ ad, (av ad).length = n) (hrm : fr' + 1 ≤ fr ∧ 8 + (nL' + 11) + lo' ≤ lo) (hst : (st.map fun v => v.category).sum ≤ 8) (hct : cs.1 + 1 ≤ (sR X).cells ∧ cs.2 + 6 ≤ (sR X).slots) (hnc : sNc X) (d : decode cc pc = .ok (.invokestatic index, 3)) (hs0 : s0 = (av (sad X)).reverse ++ st) (kk : sW X nL (cs.1 + 1, cs.2 + 6) σ' (pc + 3) L (.int r :: st)) : sW X nL cs σ pc L s0 := by
  obtain ⟨p, l, e, R, s, m, args, below, meth, c, D, cA, ad, A, Q⟩ := X
  obtain ⟨⟨hx, hb, hml, hown, hts⟩, hfr, hlo, hI, hxt, hnew, hlk⟩ := h
  intro H locs ls hP hS hl
  subst hs0
  obtain ⟨w1, w2, w3, w4, w5, w6, w7⟩ := hw
  have hM := hC D cA ad A
  have hpre : PreS s H (va_Pc (av ad) (fun U => wrld D cA ad A σ U ∧ ncs U)) (av ad) := ⟨fun a U g mk h => ⟨h.1, (wrld.blind (av ad) a U g mk ⟨h.1, h.2.1⟩).2, fun a b h1 h2 h3 h4 h5 => va_Nc.moved (u := U) (U := U.calling g mk _) (Vm.Alike.refl U.vm) (h.2.2 a b h1 h2 h3 h4 h5)⟩, fun U hU hW => ⟨rfl, wr_of hI hxt hnew hP hS hU hW, fun a b h1 h2 h3 h4 h5 => va_Nc.moved hW.alike (hnc a b h1 h2 h3 h4 h5)⟩⟩
  have hG : GoodIn GW (va_wsS own index y (.codeWith y cc' nL' (some .int) hh :: GW)) := gw_goodIn (fun w hw => by
    unfold va_wsS at hw
    rcases List.mem_append.mp hw with hw | hw
    · simp only [List.mem_cons, List.not_mem_nil, or_false] at hw
      rcases hw with rfl | rfl | rfl
      · exact w3
      · exact w4
      · exact w2
    · exact (List.mem_cons.mp hw).elim (fun e => e ▸ w1) id)
  have hrun := vx_runSX (hh := hh) (As := av ad) (rest := st) (cells := cs.1) (slots := cs.2) (locs := locs) (g := F0 m pc ls ((av ad).reverse ++ st)) (p := p) (e := e) (below := below) (meth := meth) ⟨hx, hb, hml, hown, hts⟩ hM (vx_cwSW n hts hG rfl rfl rfl ⟨w5, w6, w7⟩ ⟨Nat.le_trans hrm.1 hfr, Nat.le_trans hrm.2 hlo⟩) hpre rfl (hn ad) hl.1.1 rfl (lv_room hst) d hct
  refine vx_calli hrun hS (fun q _ h => h) (fun q h => h) (fun q _ h => h) (fun E ce q9 u t H1 locs1 ht hvm hf hB hz1 hk1 hS1 hce hcv hcl => hf.elim) (fun r1 u t H1 locs1 ht hvm hw hB hz1 hk1 hS1 => ?_)
  subst hw
  exact kk H1 locs1 ls (by rw [← ht]; exact hB.1) hS1 hl
