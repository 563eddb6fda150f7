/-! methods that throw -/
def xname : Nat → String
  | 1 => "java/lang/IllegalArgumentException"
  | 2 => "java/lang/IndexOutOfBoundsException"
  | 3 => "java/lang/IllegalStateException"
  | 4 => "java/util/NoSuchElementException"
  | 5 => "java/lang/UnsupportedOperationException"
  | _ => "java/lang/ArithmeticException"
def xsup : List String := ["java/lang/RuntimeException", "java/lang/Exception"]
def rmT (fr lo : Nat) : Room := { frames := fr, cells := 1, slots := 6, locals := lo }
def xXC (D : va_G) (cA : Nat → ClassId) (ad : Nat → Nat) (A : Nat → Prop) (e : Nat) (σ' : Mm) : String → State → State → Prop := vx_X (fun (_ : Unit) => True) (fun E _ t => E = xname e ∧ va_P D CL (WS cA ad σ') t.heap) A
def cTI (l : Launch) (y : MethodName) (cc : ByteArray) (nL : Nat) (rt : FieldType) (fr lo : Nat) (av : (Nat → Nat) → List Value) (σ : Mm) (e : Nat) (σ' : Mm) : Prop :=
  ∀ (D : va_G) (cA : Nat → ClassId) (ad : Nat → Nat) (A : Nat → Prop), vx_Met l y (.code y cc nL (some rt) :: GW) (rmT fr lo) (va_Pc (av ad) (wrld D cA ad A σ)) (va_Qi (fun _ (_ : Unit) => False) (fun _ _ => True) A) (xXC D cA ad A e σ') 1 6 A
def cTV (l : Launch) (y : MethodName) (cc : ByteArray) (nL : Nat) (fr lo : Nat) (av : (Nat → Nat) → List Value) (σ : Mm) (e : Nat) (σ' : Mm) : Prop :=
  ∀ (D : va_G) (cA : Nat → ClassId) (ad : Nat → Nat) (A : Nat → Prop), vx_Met l y (.code y cc nL none :: GW) (rmT fr lo) (va_Pc (av ad) (wrld D cA ad A σ)) (va_Qv (fun (_ : Unit) => False) (fun _ _ => True) A) (xXC D cA ad A e σ') 1 6 A
abbrev nseB : ByteArray := prog_34_method_4_code
theorem nse_b0 : decode nseB 0 = .ok (.aload_n 0, 1) := by decide +kernel
theorem nse_b1 : decode nseB 1 = .ok (.aload_n 1, 1) := by decide +kernel
theorem nse_b2 : decode nseB 2 = .ok (.invokespecial 13, 3) := by decide +kernel
theorem nse_b5 : decode nseB 5 = .ok (.return_, 1) := by decide +kernel
def xok (e ik ic : Nat) : Prop := Cond.classLink RX9 ik (xname e) ∈ GW ∧ Cond.initialized (xname e) ∈ GW ∧ Bundle.fit (xname e) = true ∧ (∀ n ∈ xsup, Bundle.fit n = true) ∧
  (((∀ w ∈ vx_atS RX9 ic (xname e) xsup, w ∈ lw_tbl ∧ (goodWord w || isNw w) = true) ∧ (∀ w ∈ Cond.classLink RX9 ik (xname e) :: Cond.initialized (xname e) :: vx_atS RX9 ic (xname e) xsup, vx_ot w = true)) ∨
   (e = 4 ∧ (∀ w ∈ nseL RX9 ic (xname e) "java/lang/RuntimeException" 13 nseB ["java/lang/Exception"], w ∈ lw_tbl ∧ (goodWord w || isNw w) = true) ∧ (∀ w ∈ Cond.classLink RX9 ik (xname e) :: Cond.initialized (xname e) :: nseL RX9 ic (xname e) "java/lang/RuntimeException" 13 nseB ["java/lang/Exception"], vx_ot w = true)))
def sThr (X : sT) (cc : ByteArray) (nL : Nat) (cs : Nat × Nat) (e : Nat) (σ' : Mm) : Prop := ∀ (pc : Nat) (L : List (Option Value)) (st : List Value) (ik is ic : Nat) (tx : String), xok e ik ic → (is, tx) ∈ STR → decode cc pc = .ok (.new ik, 3) → decode cc (pc + 3) = .ok (.dup, 1) → ((decode cc (pc + 4) = .ok (.ldc is, 2) ∧ decode cc (pc + 6) = .ok (.invokespecial ic, 3) ∧ decode cc (pc + 9) = .ok (.athrow, 1)) ∨ (e ≠ 4 ∧ decode cc (pc + 4) = .ok (.ldc_w is, 3) ∧ decode cc (pc + 7) = .ok (.invokespecial ic, 3) ∧ decode cc (pc + 10) = .ok (.athrow, 1))) → (st.map fun v => v.category).sum ≤ 8 → sW X nL cs σ' pc L st
def sTh (X : sT) (nL : Nat) (cs : Nat × Nat) (e : Nat) (σ' : Mm) : Prop := match X with
  | (p, l, env, R, s, m, args, below, meth, c, D, cA, ad, A, Q) => ∀ (H : Heap) (locs : List Loc) (ls : Array Slot) (pc : Nat) (st : List Value) (q : Addr) (ce : Cell), va_P D CL (WS cA ad σ') H → va_S A s.heap H locs → ls.size = nL → H[q]? = some ce → ce.vm = .none → s.vm.findClass (xname e) = some ce.cls → vx_W p l env R s m args below meth c H locs (cs.1 + 1) (cs.2 + 6) Q (F0 m pc ls st) q
theorem hat_of {args : Array Value} {s : State} {ad : Nat → Nat} {L : List Cond} (hts : ∀ w ∈ GW, w.before args s = true) (hst : stab ad s) (h : ∀ w ∈ L, w ∈ lw_tbl ∧ (goodWord w || isNw w) = true) : ∀ w ∈ L, w.before args s = true := by
  intro w hw
  obtain ⟨h1, h2⟩ := h w hw
  by_cases g : goodWord w = true
  · exact hts w (List.mem_append_right _ (List.mem_filter.mpr ⟨h1, g⟩))
  · have g1 : isNw w = true := by
      rw [Bool.or_eq_true] at h2
      exact h2.elim (fun q => absurd q g) id
    have h3 : w ∈ tables_1 := by
      rcases List.mem_append.mp h1 with h | h
      · obtain ⟨q, -, rfl⟩ := List.mem_map.mp h
        cases g1
      · exact h
    have h4 := hst.1 w (List.mem_filter.mpr ⟨h3, g1⟩)
    cases w <;> first | exact va_Nw.use rfl h4 | cases g1
theorem va_P_keep {D : va_G} {cl : List vw_C} {ws : va_W} {H H1 : Heap} (h : va_P D cl ws H) (hk : ∀ q : Nat, q < H.size → H1[q]? = H[q]?) : va_P D cl ws H1 := fun k q hq => (h k q hq).kept (hk q.1 (h k q hq).lt)
theorem c_enterTI {l : Launch} {y : MethodName} {cc : ByteArray} {nL : Nat} {rt : FieldType} {fr lo : Nat} {av : (Nat → Nat) → List Value} {σ : Mm} {e : Nat} {σ' : Mm} (L : (Nat → Nat) → List (Option Value)) (hl : l.stackTraces = false) (hy : plainName y.cls = true) (hy9 : y.cls = RX9) (hfr : 6 ≤ fr) (hlo : 100 ≤ lo) (hav : ∀ ad, (∀ v ∈ av ad, v.category = 1) ∧ (lg_sl (av ad)).length ≤ nL) (hL : ∀ ad, ∃ j, L ad = (av ad).map some ++ List.replicate j none)
    (body : ∀ X : sT, sl X = l → sX X cc y.cls nL fr lo → ((0 : Nat) + 1 ≤ (sR X).cells ∧ (0 : Nat) + 6 ≤ (sR X).slots) → sThr X cc nL (0, 0) e σ' → sTh X nL (0, 0) e σ' → sW X nL (0, 0) σ 0 (L (sad X)) []) : cTI l y cc nL rt fr lo av σ e σ' := by
  intro D cA ad A
  refine vx_ofW (cc := cc) (maxL := nL) (ret := (some rt)) hy rfl ?_
  intro p env s m args below meth c s₁ B hml htab hv
  obtain ⟨rfl, hP, hI, hxt, hnew⟩ := hv
  have hts0 := atoms_spec (ws := Cond.code y cc nL (some rt) :: GW) B.pre
  have hts : ∀ w ∈ GW, w.before (av ad).toArray s = true := fun w hw => hts0 w (List.mem_cons_of_mem _ hw)
  have hown : s.vm.findClass y.cls = some m.cls := findClass_of_methodNamed B.named
  have hown9 : s.vm.findClass RX9 = some m.cls := by rw [← hy9]; exact hown
  obtain ⟨j, hj⟩ := hL ad
  have hl1 := loc_entry (av ad) (j := j) (hav ad).1 (hav ad).2
  rw [← hj] at hl1
  rw [lg_entry_eq]
  refine body (p, l, env, (headSpec (Cond.code y cc nL (some rt) :: GW) (rmT fr lo)).room, s, m, (av ad).toArray, below, meth, c, D, cA, ad, A, _) rfl ⟨⟨B.exec, B.bytes, hml, hown, hts⟩, Nat.le_refl _, Nat.le_refl _, hI, hxt, hnew, B.notSynchronized⟩ ⟨Nat.le_refl _, Nat.le_refl _⟩ ?_ ?_ s.heap [] _ hP va_S.rf hl1
  · intro pc L st ik is ic tx hok hstr d0 d3 hd hst H locs ls hP1 hS1 hl2
    obtain ⟨k1, k2, k5, k6, kk⟩ := hok
    obtain ⟨sa, hsa⟩ := hI.2.2.2.2.1 _ hstr
    have hx : ∀ t : State, s.vm.Alike t.vm → H.size ≤ t.heap.size → (∀ q : Nat, q < H.size → t.heap[q]? = H[q]?) → xXC D cA ad A e σ' (xname e) s t := fun t _ hz hk => ⟨(), trivial, ⟨rfl, va_P_keep hP1 hk⟩, ⟨Nat.le_trans hS1.1 hz, fun q h1 h2 => (hk q (Nat.lt_of_lt_of_le h1 hS1.1)).trans (hS1.2.1 q h1 h2)⟩⟩
    have hrl : (st.map fun v => v.category).sum + (13 * (xsup.length + 1) + 43) ≤ lo := by
      have : xsup.length = 2 := rfl
      omega
    rcases kk with ⟨k3, k4⟩ | ⟨h4, k3, k4⟩
    · have hat := hat_of hts hI.2.2.2 k3
      rcases hd with ⟨d4, d6, d9⟩ | ⟨-, d4, d7, d10⟩
      · exact vx_throwS B.exec B.bytes hl (names := xsup) hown9 k5 k6 (hts _ k1) (hts _ k2) hsa hat k4 hxt.1 hxt.2.1 hS1 (hl2.1.1.trans hml.symm) d0 d3 d4 d6 d9 (fun x hx => (htab x hx).elim) (show 2 + 3 < fr by omega) hrl (Nat.le_refl _) (Nat.le_refl _) B.notSynchronized hx (fun q hq => hS1.2.2 q hq) (Nat.le_refl _) (Nat.le_refl _)
      · exact vx_throwSW B.exec B.bytes hl (names := xsup) hown9 k5 k6 (hts _ k1) (hts _ k2) hsa hat k4 hxt.1 hxt.2.1 hS1 (hl2.1.1.trans hml.symm) d0 d3 d4 d7 d10 (fun x hx => (htab x hx).elim) (show 2 + 3 < fr by omega) hrl (Nat.le_refl _) (Nat.le_refl _) B.notSynchronized hx (fun q hq => hS1.2.2 q hq) (Nat.le_refl _) (Nat.le_refl _)
    · have hat := hat_of hts hI.2.2.2 k3
      rcases hd with ⟨d4, d6, d9⟩ | ⟨n4, d4, d7, d10⟩
      · exact vx_throwN B.exec B.bytes hl (names := ["java/lang/Exception"]) hown9 k5 (k6 _ List.mem_cons_self) (fun n hn => k6 n (List.mem_cons_of_mem _ hn)) nse_b0 nse_b1 nse_b2 nse_b5 (hts _ k1) (hts _ k2) hsa hat k4 hxt.1 hxt.2.1 hS1 (hl2.1.1.trans hml.symm) d0 d3 d4 d6 d9 (fun x hx => (htab x hx).elim) (show 1 + 4 < fr by omega) (show (st.map fun v => v.category).sum + (13 * (1 + 2) + 43) ≤ lo by omega) (Nat.le_refl _) (Nat.le_refl _) B.notSynchronized hx (fun q hq => hS1.2.2 q hq) (Nat.le_refl _) (Nat.le_refl _)
      · exact absurd h4 n4
  · intro H locs ls pc st q ce hP1 hS1 hls hce hcv hcl
    exact vx_out (fun x hx => (htab x hx).elim) B.notSynchronized hce hcv hcl (fun t ht _ => ⟨(), trivial, ⟨rfl, by rw [ht]; exact hP1⟩, hS1.F ht⟩) (fun q hq => hS1.2.2 q hq) (Nat.le_refl _) (Nat.le_refl _)
theorem c_enterTV {l : Launch} {y : MethodName} {cc : ByteArray} {nL : Nat}  {fr lo : Nat} {av : (Nat → Nat) → List Value} {σ : Mm} {e : Nat} {σ' : Mm} (L : (Nat → Nat) → List (Option Value)) (hl : l.stackTraces = false) (hy : plainName y.cls = true) (hy9 : y.cls = RX9) (hfr : 6 ≤ fr) (hlo : 100 ≤ lo) (hav : ∀ ad, (∀ v ∈ av ad, v.category = 1) ∧ (lg_sl (av ad)).length ≤ nL) (hL : ∀ ad, ∃ j, L ad = (av ad).map some ++ List.replicate j none)
    (body : ∀ X : sT, sl X = l → sX X cc y.cls nL fr lo → ((0 : Nat) + 1 ≤ (sR X).cells ∧ (0 : Nat) + 6 ≤ (sR X).slots) → sThr X cc nL (0, 0) e σ' → sTh X nL (0, 0) e σ' → sW X nL (0, 0) σ 0 (L (sad X)) []) : cTV l y cc nL fr lo av σ e σ' := by
  intro D cA ad A
  refine vx_ofW (cc := cc) (maxL := nL) (ret := none) hy rfl ?_
  intro p env s m args below meth c s₁ B hml htab hv
  obtain ⟨rfl, hP, hI, hxt, hnew⟩ := hv
  have hts0 := atoms_spec (ws := Cond.code y cc nL none :: GW) B.pre
  have hts : ∀ w ∈ GW, w.before (av ad).toArray s = true := fun w hw => hts0 w (List.mem_cons_of_mem _ hw)
  have hown : s.vm.findClass y.cls = some m.cls := findClass_of_methodNamed B.named
  have hown9 : s.vm.findClass RX9 = some m.cls := by rw [← hy9]; exact hown
  obtain ⟨j, hj⟩ := hL ad
  have hl1 := loc_entry (av ad) (j := j) (hav ad).1 (hav ad).2
  rw [← hj] at hl1
  rw [lg_entry_eq]
  refine body (p, l, env, (headSpec (Cond.code y cc nL none :: GW) (rmT fr lo)).room, s, m, (av ad).toArray, below, meth, c, D, cA, ad, A, _) rfl ⟨⟨B.exec, B.bytes, hml, hown, hts⟩, Nat.le_refl _, Nat.le_refl _, hI, hxt, hnew, B.notSynchronized⟩ ⟨Nat.le_refl _, Nat.le_refl _⟩ ?_ ?_ s.heap [] _ hP va_S.rf hl1
  · intro pc L st ik is ic tx hok hstr d0 d3 hd hst H locs ls hP1 hS1 hl2
    obtain ⟨k1, k2, k5, k6, kk⟩ := hok
    obtain ⟨sa, hsa⟩ := hI.2.2.2.2.1 _ hstr
    have hx : ∀ t : State, s.vm.Alike t.vm → H.size ≤ t.heap.size → (∀ q : Nat, q < H.size → t.heap[q]? = H[q]?) → xXC D cA ad A e σ' (xname e) s t := fun t _ hz hk => ⟨(), trivial, ⟨rfl, va_P_keep hP1 hk⟩, ⟨Nat.le_trans hS1.1 hz, fun q h1 h2 => (hk q (Nat.lt_of_lt_of_le h1 hS1.1)).trans (hS1.2.1 q h1 h2)⟩⟩
    have hrl : (st.map fun v => v.category).sum + (13 * (xsup.length + 1) + 43) ≤ lo := by
      have : xsup.length = 2 := rfl
      omega
    rcases kk with ⟨k3, k4⟩ | ⟨h4, k3, k4⟩
    · have hat := hat_of hts hI.2.2.2 k3
      rcases hd with ⟨d4, d6, d9⟩ | ⟨-, d4, d7, d10⟩
      · exact vx_throwS B.exec B.bytes hl (names := xsup) hown9 k5 k6 (hts _ k1) (hts _ k2) hsa hat k4 hxt.1 hxt.2.1 hS1 (hl2.1.1.trans hml.symm) d0 d3 d4 d6 d9 (fun x hx => (htab x hx).elim) (show 2 + 3 < fr by omega) hrl (Nat.le_refl _) (Nat.le_refl _) B.notSynchronized hx (fun q hq => hS1.2.2 q hq) (Nat.le_refl _) (Nat.le_refl _)
      · exact vx_throwSW B.exec B.bytes hl (names := xsup) hown9 k5 k6 (hts _ k1) (hts _ k2) hsa hat k4 hxt.1 hxt.2.1 hS1 (hl2.1.1.trans hml.symm) d0 d3 d4 d7 d10 (fun x hx => (htab x hx).elim) (show 2 + 3 < fr by omega) hrl (Nat.le_refl _) (Nat.le_refl _) B.notSynchronized hx (fun q hq => hS1.2.2 q hq) (Nat.le_refl _) (Nat.le_refl _)
    · have hat := hat_of hts hI.2.2.2 k3
      rcases hd with ⟨d4, d6, d9⟩ | ⟨n4, d4, d7, d10⟩
      · exact vx_throwN B.exec B.bytes hl (names := ["java/lang/Exception"]) hown9 k5 (k6 _ List.mem_cons_self) (fun n hn => k6 n (List.mem_cons_of_mem _ hn)) nse_b0 nse_b1 nse_b2 nse_b5 (hts _ k1) (hts _ k2) hsa hat k4 hxt.1 hxt.2.1 hS1 (hl2.1.1.trans hml.symm) d0 d3 d4 d6 d9 (fun x hx => (htab x hx).elim) (show 1 + 4 < fr by omega) (show (st.map fun v => v.category).sum + (13 * (1 + 2) + 43) ≤ lo by omega) (Nat.le_refl _) (Nat.le_refl _) B.notSynchronized hx (fun q hq => hS1.2.2 q hq) (Nat.le_refl _) (Nat.le_refl _)
      · exact absurd h4 n4
  · intro H locs ls pc st q ce hP1 hS1 hls hce hcv hcl
    exact vx_out (fun x hx => (htab x hx).elim) B.notSynchronized hce hcv hcl (fun t ht _ => ⟨(), trivial, ⟨rfl, by rw [ht]; exact hP1⟩, hS1.F ht⟩) (fun q hq => hS1.2.2 q hq) (Nat.le_refl _) (Nat.le_refl _)
theorem s_callVTI {X : sT} {cc : ByteArray} {own : String} {nL fr lo : Nat} {cs : Nat × Nat} {σ : Mm} {pc : Nat} {L : List (Option Value)} {st : List Value} {y : MethodName} {cc' : ByteArray} {nL' fr' lo' index n ci N N' k e : Nat} {rs : List Nat} {C : String} {T : u_T} {rt : FieldType} {σ' : Mm} {s0 : List Value} (av0 : (Nat → Nat) → List Value) (h : sX X cc own nL fr lo) (hC : cTI (sl X) y cc' nL' rt fr' lo' (fun ad => .ref (ad k) :: av0 ad) σ e σ') (hk : SH[k]? = some (1, ci, N, rs)) (hc : CL[ci]? = some (C, T, N')) (hw : Cond.code y cc' nL' (some rt) ∈ GW ∧ Cond.initialized y.cls ∈ GW ∧ Cond.instanceMethod y ∈ GW ∧ Cond.methodLink own index y ∈ GW ∧ Cond.selects C y y ∈ GW ∧ y.cls ≠ "java/lang/invoke/MethodHandle" ∧ y.cls ≠ "java/lang/invoke/VarHandle" ∧ (parseMethodDescriptor y.desc).map (fun d => d.parameters.length) = some n) (hn : ∀ ad, (av0 ad).length = n) (hrm : fr' + 1 ≤ fr ∧ 8 + (nL' + 11) + lo' ≤ lo) (hst : (st.map fun v => v.category).sum ≤ 8) (hct : cs.1 + 1 ≤ (sR X).cells ∧ cs.2 + 6 ≤ (sR X).slots) (d : decode cc pc = .ok (.invokevirtual index, 3)) (hs0 : s0 = (av0 (sad X)).reverse ++ .ref (sad X k) :: st) (hth : sTh X nL cs e σ') : sW X nL cs σ pc L s0 := by
  obtain ⟨p, l, env, R, s, m, args, below, meth, c, D, cA, ad, A, Q⟩ := X
  obtain ⟨⟨hx, hb, hml, hown, hts⟩, hfr, hlo, hI, hxt, hnew, hlk⟩ := h
  intro H locs ls hP hS hl
  subst hs0
  obtain ⟨w1, w2, w3, w5, w6, w7, w8, w9⟩ := hw
  have hR : (rmT fr' lo').frames + 1 ≤ R.frames ∧ 8 + (nL' + 11) + (rmT fr' lo').locals ≤ R.locals := ⟨Nat.le_trans hrm.1 hfr, Nat.le_trans hrm.2 hlo⟩
  have hM := hC D cA ad A
  have hpre : PreV s H C (ad k) (va_Pc (.ref (ad k) :: av0 ad) (wrld D cA ad A σ)) (av0 ad) := ⟨wrld.blind _, va_recv hI.1 hP (ci := ci) (q0 := k) hc (WSg_at hk), fun U hU hW => ⟨rfl, wr_of hI hxt hnew hP hS hU hW⟩⟩
  have hrun := vx_runV (As := av0 ad) (rest := st) (cells := cs.1) (slots := cs.2) (locs := locs) (g := F0 m pc ls ((av0 ad).reverse ++ .ref (ad k) :: st)) (p := p) (e := env) (below := below) (meth := meth) ⟨hx, hb, hml, hown, hts⟩ hM ⟨callB_of n hts (gw_cons w1) rfl rfl rfl (hts _ w2) (hts _ w5) ⟨w7, w8, w9⟩ hR, hts _ w3, hts _ w6⟩ hpre rfl (hn ad) hl.1.1 rfl (lv_room hst) d hct
  refine vx_calli hrun hS (fun q _ h => h) (fun q h => h) (fun q _ h => h) (fun E ce q9 u t H1 locs1 ht hvm _ hB hz1 hk1 hS1 hce hcv hcl => ?_) (fun r1 u t H1 locs1 ht hvm hw hB hz1 hk1 hS1 => hw.elim)
  obtain ⟨rfl, hP1⟩ := hB
  exact hth H1 locs1 ls pc st q9 ce (by rw [← ht]; exact hP1) hS1 hl.1.1 hce hcv hcl
theorem s_callVTV {X : sT} {cc : ByteArray} {own : String} {nL fr lo : Nat} {cs : Nat × Nat} {σ : Mm} {pc : Nat} {L : List (Option Value)} {st : List Value} {y : MethodName} {cc' : ByteArray} {nL' fr' lo' index n ci N N' k e : Nat} {rs : List Nat} {C : String} {T : u_T}  {σ' : Mm} {s0 : List Value} (av0 : (Nat → Nat) → List Value) (h : sX X cc own nL fr lo) (hC : cTV (sl X) y cc' nL' fr' lo' (fun ad => .ref (ad k) :: av0 ad) σ e σ') (hk : SH[k]? = some (1, ci, N, rs)) (hc : CL[ci]? = some (C, T, N')) (hw : Cond.code y cc' nL' none ∈ GW ∧ Cond.initialized y.cls ∈ GW ∧ Cond.instanceMethod y ∈ GW ∧ Cond.methodLink own index y ∈ GW ∧ Cond.selects C y y ∈ GW ∧ y.cls ≠ "java/lang/invoke/MethodHandle" ∧ y.cls ≠ "java/lang/invoke/VarHandle" ∧ (parseMethodDescriptor y.desc).map (fun d => d.parameters.length) = some n) (hn : ∀ ad, (av0 ad).length = n) (hrm : fr' + 1 ≤ fr ∧ 8 + (nL' + 11) + lo' ≤ lo) (hst : (st.map fun v => v.category).sum ≤ 8) (hct : cs.1 + 1 ≤ (sR X).cells ∧ cs.2 + 6 ≤ (sR X).slots) (d : decode cc pc = .ok (.invokevirtual index, 3)) (hs0 : s0 = (av0 (sad X)).reverse ++ .ref (sad X k) :: st) (hth : sTh X nL cs e σ') : sW X nL cs σ pc L s0 := by
  obtain ⟨p, l, env, R, s, m, args, below, meth, c, D, cA, ad, A, Q⟩ := X
  obtain ⟨⟨hx, hb, hml, hown, hts⟩, hfr, hlo, hI, hxt, hnew, hlk⟩ := h
  intro H locs ls hP hS hl
  subst hs0
  obtain ⟨w1, w2, w3, w5, w6, w7, w8, w9⟩ := hw
  have hR : (rmT fr' lo').frames + 1 ≤ R.frames ∧ 8 + (nL' + 11) + (rmT fr' lo').locals ≤ R.locals := ⟨Nat.le_trans hrm.1 hfr, Nat.le_trans hrm.2 hlo⟩
  have hM := hC D cA ad A
  have hpre : PreV s H C (ad k) (va_Pc (.ref (ad k) :: av0 ad) (wrld D cA ad A σ)) (av0 ad) := ⟨wrld.blind _, va_recv hI.1 hP (ci := ci) (q0 := k) hc (WSg_at hk), fun U hU hW => ⟨rfl, wr_of hI hxt hnew hP hS hU hW⟩⟩
  have hrun := vx_runV (As := av0 ad) (rest := st) (cells := cs.1) (slots := cs.2) (locs := locs) (g := F0 m pc ls ((av0 ad).reverse ++ .ref (ad k) :: st)) (p := p) (e := env) (below := below) (meth := meth) ⟨hx, hb, hml, hown, hts⟩ hM ⟨callB_of n hts (gw_cons w1) rfl rfl rfl (hts _ w2) (hts _ w5) ⟨w7, w8, w9⟩ hR, hts _ w3, hts _ w6⟩ hpre rfl (hn ad) hl.1.1 rfl (lv_room hst) d hct
  refine vx_callv hrun hS (fun q _ h => h) (fun q h => h) (fun q _ h => h) (fun E ce q9 u t H1 locs1 ht hvm _ hB hz1 hk1 hS1 hce hcv hcl => ?_) (fun u t H1 locs1 ht hvm hw hB hz1 hk1 hS1 => hw.elim)
  obtain ⟨rfl, hP1⟩ := hB
  exact hth H1 locs1 ls pc st q9 ce (by rw [← ht]; exact hP1) hS1 hl.1.1 hce hcv hcl
theorem s_callSTV {X : sT} {cc : ByteArray} {own : String} {nL fr lo : Nat} {cs : Nat × Nat} {σ : Mm} {pc : Nat} {L : List (Option Value)} {st : List Value} {y : MethodName} {cc' : ByteArray} {nL' fr' lo' index n e : Nat} {σ' : Mm} {s0 : List Value} (av : (Nat → Nat) → List Value) (h : sX X cc own nL fr lo) (hC : cTV (sl X) y cc' nL' fr' lo' av σ e σ') (hw : Cond.code y cc' nL' none ∈ GW ∧ Cond.initialized y.cls ∈ GW ∧ Cond.methodLink own index y ∈ GW ∧ Cond.static y ∈ GW ∧ y.cls ≠ "java/lang/invoke/MethodHandle" ∧ y.cls ≠ "java/lang/invoke/VarHandle" ∧ (parseMethodDescriptor y.desc).map (fun d => d.parameters.length) = some n) (hn : ∀ ad, (av ad).length = n) (hrm : fr' + 1 ≤ fr ∧ 8 + (nL' + 11) + lo' ≤ lo) (hst : (st.map fun v => v.category).sum ≤ 8) (hct : cs.1 + 1 ≤ (sR X).cells ∧ cs.2 + 6 ≤ (sR X).slots) (d : decode cc pc = .ok (.invokestatic index, 3)) (hs0 : s0 = (av (sad X)).reverse ++ st) (hth : sTh X nL cs e σ') : sW X nL cs σ pc L s0 := by
  obtain ⟨p, l, env, R, s, m, args, below, meth, c, D, cA, ad, A, Q⟩ := X
  obtain ⟨⟨hx, hb, hml, hown, hts⟩, hfr, hlo, hI, hxt, hnew, hlk⟩ := h
  intro H locs ls hP hS hl
  subst hs0
  obtain ⟨w1, w2, w3, w4, w5, w6, w7⟩ := hw
  have hR : (rmT fr' lo').frames + 1 ≤ R.frames ∧ 8 + (nL' + 11) + (rmT fr' lo').locals ≤ R.locals := ⟨Nat.le_trans hrm.1 hfr, Nat.le_trans hrm.2 hlo⟩
  have hM := hC D cA ad A
  have hpre : PreS s H (va_Pc (av ad) (wrld D cA ad A σ)) (av ad) := ⟨wrld.blind _, fun U hU hW => ⟨rfl, wr_of hI hxt hnew hP hS hU hW⟩⟩
  have hrun := vx_runS (As := av ad) (rest := st) (cells := cs.1) (slots := cs.2) (locs := locs) (g := F0 m pc ls ((av ad).reverse ++ st)) (p := p) (e := env) (below := below) (meth := meth) ⟨hx, hb, hml, hown, hts⟩ hM ⟨callB_of n hts (gw_cons w1) rfl rfl rfl (hts _ w2) (hts _ w3) ⟨w5, w6, w7⟩ hR, hts _ w4⟩ hpre rfl (hn ad) hl.1.1 rfl (lv_room hst) d hct
  refine vx_callv hrun hS (fun q _ h => h) (fun q h => h) (fun q _ h => h) (fun E ce q9 u t H1 locs1 ht hvm _ hB hz1 hk1 hS1 hce hcv hcl => ?_) (fun u t H1 locs1 ht hvm hw hB hz1 hk1 hS1 => hw.elim)
  obtain ⟨rfl, hP1⟩ := hB
  exact hth H1 locs1 ls pc st q9 ce (by rw [← ht]; exact hP1) hS1 hl.1.1 hce hcv hcl
/-! results: 0 and the answer, or the exception's number -/
abbrev Rx : Type := Nat × Int32 × Mm
def bnT (o : Option Rx) (k : Int32 → Mm → Option Rx) : Option Rx := o.bind fun x => if x.1 = 0 then k x.2.1 x.2.2 else some (x.1, 0, x.2.2)
theorem bnT_0 {o : Option Rx} {k : Int32 → Mm → Option Rx} {r : Int32} {s : Mm} (h : bnT o k = some (0, r, s)) : ∃ r1 s1, o = some (0, r1, s1) ∧ k r1 s1 = some (0, r, s) := by
  obtain ⟨⟨a, b, c⟩, h1, h2⟩ := bn_some h
  by_cases ha : a = 0
  · subst ha
    exact ⟨b, c, h1, h2⟩
  · rw [if_neg ha] at h2
    exact absurd (congrArg Prod.fst (Option.some.inj h2)) ha
theorem bnT_e {o : Option Rx} {k : Int32 → Mm → Option Rx} {e : Nat} {r : Int32} {s : Mm} (he : e ≠ 0) (h : bnT o k = some (e, r, s)) : (∃ r1 s1, o = some (0, r1, s1) ∧ k r1 s1 = some (e, r, s)) ∨ ∃ r1, o = some (e, r1, s) := by
  obtain ⟨⟨a, b, c⟩, h1, h2⟩ := bn_some h
  by_cases ha : a = 0
  · subst ha
    exact Or.inl ⟨b, c, h1, h2⟩
  · rw [if_neg ha] at h2
    have h3 := Option.some.inj h2
    have e1 : a = e := congrArg Prod.fst h3
    have e2 : c = s := congrArg (fun x => x.2.2) h3
    subst e1; subst e2
    exact Or.inr ⟨b, h1⟩
theorem rt3 {a a' : Nat} {b b' : Int32} {c c' : Mm} (h : some (a, b, c) = some (a', b', c')) : a' = a ∧ b' = b ∧ c' = c := by
  have h1 := Option.some.inj h
  exact ⟨(congrArg Prod.fst h1).symm, (congrArg (fun x => x.2.1) h1).symm, (congrArg (fun x => x.2.2) h1).symm⟩
