/-! methods that throw -/
def xname : Nat → String
  | 1 => "java/lang/IllegalArgumentException"
  | 2 => "java/lang/IndexOutOfBoundsException"
  | 3 => "java/lang/IllegalStateException"
  | 4 => "java/util/NoSuchElementException"
  | 5 => "java/lang/UnsupportedOperationException"
  | _ => "java/lang/ArithmeticException"
def xsup : List String := ["java/lang/RuntimeException", "java/lang/Exception"]
def rmT (fr lo : Nat) : Room := { frames := fr, cells := 1, slots := 6, locals := lo }
def xXC (D : va_G) (cA : Nat → ClassId) (ad : Nat → Nat) (A : Nat → Prop) (e : Nat) (σ' : Mm) : String → State → State → Prop := vx_X (fun (_ : Unit) => True) (fun E _ t => E = xname e ∧ va_P D CL (WS cA ad σ') t.heap) A
def cTI (l : Launch) (y : MethodName) (cc : ByteArray) (nL : Nat) (rt : FieldType) (fr lo : Nat) (av : (Nat → Nat) → List Value) (σ : Mm) (e : Nat) (σ' : Mm) : Prop :=
  ∀ (D : va_G) (cA : Nat → ClassId) (ad : Nat → Nat) (A : Nat → Prop), vx_Met l y (.code y cc nL (some rt) :: GW) (rmT fr lo) (va_Pc (av ad) (wrld D cA ad A σ)) (va_Qi (fun _ (_ : Unit) => False) (fun _ _ => True) A) (xXC D cA ad A e σ') 1 6 A
def cTV (l : Launch) (y : MethodName) (cc : ByteArray) (nL : Nat) (fr lo : Nat) (av : (Nat → Nat) → List Value) (σ : Mm) (e : Nat) (σ' : Mm) : Prop :=
  ∀ (D : va_G) (cA : Nat → ClassId) (ad : Nat → Nat) (A : Nat → Prop), vx_Met l y (.code y cc nL none :: GW) (rmT fr lo) (va_Pc (av ad) (wrld D cA ad A σ)) (va_Qv (fun (_ : Unit) => False) (fun _ _ => True) A) (xXC D cA ad A e σ') 1 6 A
def xok (e ik ic : Nat) : Prop := Cond.classLink RX9 ik (xname e) ∈ GW ∧ Cond.initialized (xname e) ∈ GW ∧ (∀ w ∈ vx_atS RX9 ic (xname e) xsup, w ∈ lw_tbl ∧ (goodWord w || isNw w) = true) ∧ (∀ w ∈ Cond.classLink RX9 ik (xname e) :: Cond.initialized (xname e) :: vx_atS RX9 ic (xname e) xsup, vx_ot w = true) ∧ Bundle.fit (xname e) = true ∧ ∀ n ∈ xsup, Bundle.fit n = true
def sThr (X : sT) (cc : ByteArray) (nL : Nat) (cs : Nat × Nat) (e : Nat) (σ' : Mm) : Prop := ∀ (pc : Nat) (L : List (Option Value)) (st : List Value) (ik is ic : Nat) (tx : String), xok e ik ic → (is, tx) ∈ STR → decode cc pc = .ok (.new ik, 3) → decode cc (pc + 3) = .ok (.dup, 1) → ((decode cc (pc + 4) = .ok (.ldc is, 2) ∧ decode cc (pc + 6) = .ok (.invokespecial ic, 3) ∧ decode cc (pc + 9) = .ok (.athrow, 1)) ∨ (decode cc (pc + 4) = .ok (.ldc_w is, 3) ∧ decode cc (pc + 7) = .ok (.invokespecial ic, 3) ∧ decode cc (pc + 10) = .ok (.athrow, 1))) → (st.map fun v => v.category).sum ≤ 8 → sW X nL cs σ' pc L st
def sTh (X : sT) (nL : Nat) (cs : Nat × Nat) (e : Nat) (σ' : Mm) : Prop := match X with
  | (p, l, env, R, s, m, args, below, meth, c, D, cA, ad, A, Q) => ∀ (H : Heap) (locs : List Loc) (ls : Array Slot) (pc : Nat) (st : List Value) (q : Addr) (ce : Cell), va_P D CL (WS cA ad σ') H → va_S A s.heap H locs → ls.size = nL → H[q]? = some ce → ce.vm = .none → s.vm.findClass (xname e) = some ce.cls → vx_W p l env R s m args below meth c H locs (cs.1 + 1) (cs.2 + 6) Q (F0 m pc ls st) q
theorem hat_of {args : Array Value} {s : State} {ad : Nat → Nat} {L : List Cond} (hts : ∀ w ∈ GW, w.before args s = true) (hst : stab ad s) (h : ∀ w ∈ L, w ∈ lw_tbl ∧ (goodWord w || isNw w) = true) : ∀ w ∈ L, w.before args s = true := by
  intro w hw
  obtain ⟨h1, h2⟩ := h w hw
  by_cases g : goodWord w = true
  · exact hts w (List.mem_append_right _ (List.mem_filter.mpr ⟨h1, g⟩))
  · have g1 : isNw w = true := by
      rw [Bool.or_eq_true] at h2
      exact h2.elim (fun q => absurd q g) id
    have h3 : w ∈ tables_1 := by
      rcases List.mem_append.mp h1 with h | h
      · obtain ⟨q, -, rfl⟩ := List.mem_map.mp h
        cases g1
      · exact h
    have h4 := hst.1 w (List.mem_filter.mpr ⟨h3, g1⟩)
    cases w <;> first | exact va_Nw.use rfl h4 | cases g1
theorem va_P_keep {D : va_G} {cl : List vw_C} {ws : va_W} {H H1 : Heap} (h : va_P D cl ws H) (hk : ∀ q : Nat, q < H.size → H1[q]? = H[q]?) : va_P D cl ws H1 := fun k q hq => (h k q hq).kept (hk q.1 (h k q hq).lt)
theorem c_enterTI {l : Launch} {y : MethodName} {cc : ByteArray} {nL : Nat} {rt : FieldType} {fr lo : Nat} {av : (Nat → Nat) → List Value} {σ : Mm} {e : Nat} {σ' : Mm} (L : (Nat → Nat) → List (Option Value)) (hl : l.stackTraces = false) (hy : plainName y.cls = true) (hy9 : y.cls = RX9) (hfr : 6 ≤ fr) (hlo : 100 ≤ lo) (hav : ∀ ad, (∀ v ∈ av ad, v.category = 1) ∧ (lg_sl (av ad)).length ≤ nL) (hL : ∀ ad, ∃ j, L ad = (av ad).map some ++ List.replicate j none)
    (body : ∀ X : sT, sl X = l → sX X cc y.cls nL fr lo → ((0 : Nat) + 1 ≤ (sR X).cells ∧ (0 : Nat) + 6 ≤ (sR X).slots) → sThr X cc nL (0, 0) e σ' → sTh X nL (0, 0) e σ' → sW X nL (0, 0) σ 0 (L (sad X)) []) : cTI l y cc nL rt fr lo av σ e σ' := by
  intro D cA ad A
  refine vx_ofW (cc := cc) (maxL := nL) (ret := (some rt)) hy rfl ?_
  intro p env s m args below meth c s₁ B hml htab hv
  obtain ⟨rfl, hP, hI, hxt, hnew⟩ := hv
  have hts0 := atoms_spec (ws := Cond.code y cc nL (some rt) :: GW) B.pre
  have hts : ∀ w ∈ GW, w.before (av ad).toArray s = true := fun w hw => hts0 w (List.mem_cons_of_mem _ hw)
  have hown : s.vm.findClass y.cls = some m.cls := findClass_of_methodNamed B.named
  have hown9 : s.vm.findClass RX9 = some m.cls := by rw [← hy9]; exact hown
  obtain ⟨j, hj⟩ := hL ad
  have hl1 := loc_entry (av ad) (j := j) (hav ad).1 (hav ad).2
  rw [← hj] at hl1
  rw [lg_entry_eq]
  refine body (p, l, env, (headSpec (Cond.code y cc nL (some rt) :: GW) (rmT fr lo)).room, s, m, (av ad).toArray, below, meth, c, D, cA, ad, A, _) rfl ⟨⟨B.exec, B.bytes, hml, hown, hts⟩, Nat.le_refl _, Nat.le_refl _, hI, hxt, hnew, B.notSynchronized⟩ ⟨Nat.le_refl _, Nat.le_refl _⟩ ?_ ?_ s.heap [] _ hP va_S.rf hl1
  · intro pc L st ik is ic tx hok hstr d0 d3 hd hst H locs ls hP1 hS1 hl2
    obtain ⟨k1, k2, k3, k4, k5, k6⟩ := hok
    obtain ⟨sa, hsa⟩ := hI.2.2.2.2.1 _ hstr
    have hx : ∀ t : State, s.vm.Alike t.vm → H.size ≤ t.heap.size → (∀ q : Nat, q < H.size → t.heap[q]? = H[q]?) → xXC D cA ad A e σ' (xname e) s t := fun t _ hz hk => ⟨(), trivial, ⟨rfl, va_P_keep hP1 hk⟩, ⟨Nat.le_trans hS1.1 hz, fun q h1 h2 => (hk q (Nat.lt_of_lt_of_le h1 hS1.1)).trans (hS1.2.1 q h1 h2)⟩⟩
    have hat := hat_of hts hI.2.2.2 k3
    have hrl : (st.map fun v => v.category).sum + (13 * (xsup.length + 1) + 43) ≤ lo := by
      have : xsup.length = 2 := rfl
      omega
    rcases hd with ⟨d4, d6, d9⟩ | ⟨d4, d7, d10⟩
    · exact vx_throwS B.exec B.bytes hl (names := xsup) hown9 k5 k6 (hts _ k1) (hts _ k2) hsa hat k4 hxt.1 hxt.2.1 hS1 (hl2.1.1.trans hml.symm) d0 d3 d4 d6 d9 (fun x hx => (htab x hx).elim) (show 2 + 3 < fr by omega) hrl (Nat.le_refl _) (Nat.le_refl _) B.notSynchronized hx (fun q hq => hS1.2.2 q hq) (Nat.le_refl _) (Nat.le_refl _)
    · exact vx_throwSW B.exec B.bytes hl (names := xsup) hown9 k5 k6 (hts _ k1) (hts _ k2) hsa hat k4 hxt.1 hxt.2.1 hS1 (hl2.1.1.trans hml.symm) d0 d3 d4 d7 d10 (fun x hx => (htab x hx).elim) (show 2 + 3 < fr by omega) hrl (Nat.le_refl _) (Nat.le_refl _) B.notSynchronized hx (fun q hq => hS1.2.2 q hq) (Nat.le_refl _) (Nat.le_refl _)
  · intro H locs ls pc st q ce hP1 hS1 hls hce hcv hcl
    exact vx_out (fun x hx => (htab x hx).elim) B.notSynchronized hce hcv hcl (fun t ht _ => ⟨(), trivial, ⟨rfl, by rw [ht]; exact hP1⟩, hS1.F ht⟩) (fun q hq => hS1.2.2 q hq) (Nat.le_refl _) (Nat.le_refl _)
theorem c_enterTV {l : Launch} {y : MethodName} {cc : ByteArray} {nL : Nat}  {fr lo : Nat} {av : (Nat → Nat) → List Value} {σ : Mm} {e : Nat} {σ' : Mm} (L : (Nat → Nat) → List (Option Value)) (hl : l.stackTraces = false) (hy : plainName y.cls = true) (hy9 : y.cls = RX9) (hfr : 6 ≤ fr) (hlo : 100 ≤ lo) (hav : ∀ ad, (∀ v ∈ av ad, v.category = 1) ∧ (lg_sl (av ad)).length ≤ nL) (hL : ∀ ad, ∃ j, L ad = (av ad).map some ++ List.replicate j none)
    (body : ∀ X : sT, sl X = l → sX X cc y.cls nL fr lo → ((0 : Nat) + 1 ≤ (sR X).cells ∧ (0 : Nat) + 6 ≤ (sR X).slots) → sThr X cc nL (0, 0) e σ' → sTh X nL (0, 0) e σ' → sW X nL (0, 0) σ 0 (L (sad X)) []) : cTV l y cc nL fr lo av σ e σ' := by
  intro D cA ad A
  refine vx_ofW (cc := cc) (maxL := nL) (ret := none) hy rfl ?_
  intro p env s m args below meth c s₁ B hml htab hv
  obtain ⟨rfl, hP, hI, hxt, hnew⟩ := hv
  have hts0 := atoms_spec (ws := Cond.code y cc nL none :: GW) B.pre
  have hts : ∀ w ∈ GW, w.before (av ad).toArray s = true := fun w hw => hts0 w (List.mem_cons_of_mem _ hw)
  have hown : s.vm.findClass y.cls = some m.cls := findClass_of_methodNamed B.named
  have hown9 : s.vm.findClass RX9 = some m.cls := by rw [← hy9]; exact hown
  obtain ⟨j, hj⟩ := hL ad
  have hl1 := loc_entry (av ad) (j := j) (hav ad).1 (hav ad).2
  rw [← hj] at hl1
  rw [lg_entry_eq]
  refine body (p, l, env, (headSpec (Cond.code y cc nL none :: GW) (rmT fr lo)).room, s, m, (av ad).toArray, below, meth, c, D, cA, ad, A, _) rfl ⟨⟨B.exec, B.bytes, hml, hown, hts⟩, Nat.le_refl _, Nat.le_refl _, hI, hxt, hnew, B.notSynchronized⟩ ⟨Nat.le_refl _, Nat.le_refl _⟩ ?_ ?_ s.heap [] _ hP va_S.rf hl1
  · intro pc L st ik is ic tx hok hstr d0 d3 hd hst H locs ls hP1 hS1 hl2
    obtain ⟨k1, k2, k3, k4, k5, k6⟩ := hok
    obtain ⟨sa, hsa⟩ := hI.2.2.2.2.1 _ hstr
    have hx : ∀ t : State, s.vm.Alike t.vm → H.size ≤ t.heap.size → (∀ q : Nat, q < H.size → t.heap[q]? = H[q]?) → xXC D cA ad A e σ' (xname e) s t := fun t _ hz hk => ⟨(), trivial, ⟨rfl, va_P_keep hP1 hk⟩, ⟨Nat.le_trans hS1.1 hz, fun q h1 h2 => (hk q (Nat.lt_of_lt_of_le h1 hS1.1)).trans (hS1.2.1 q h1 h2)⟩⟩
    have hat := hat_of hts hI.2.2.2 k3
    have hrl : (st.map fun v => v.category).sum + (13 * (xsup.length + 1) + 43) ≤ lo := by
      have : xsup.length = 2 := rfl
      omega
    rcases hd with ⟨d4, d6, d9⟩ | ⟨d4, d7, d10⟩
    · exact vx_throwS B.exec B.bytes hl (names := xsup) hown9 k5 k6 (hts _ k1) (hts _ k2) hsa hat k4 hxt.1 hxt.2.1 hS1 (hl2.1.1.trans hml.symm) d0 d3 d4 d6 d9 (fun x hx => (htab x hx).elim) (show 2 + 3 < fr by omega) hrl (Nat.le_refl _) (Nat.le_refl _) B.notSynchronized hx (fun q hq => hS1.2.2 q hq) (Nat.le_refl _) (Nat.le_refl _)
    · exact vx_throwSW B.exec B.bytes hl (names := xsup) hown9 k5 k6 (hts _ k1) (hts _ k2) hsa hat k4 hxt.1 hxt.2.1 hS1 (hl2.1.1.trans hml.symm) d0 d3 d4 d7 d10 (fun x hx => (htab x hx).elim) (show 2 + 3 < fr by omega) hrl (Nat.le_refl _) (Nat.le_refl _) B.notSynchronized hx (fun q hq => hS1.2.2 q hq) (Nat.le_refl _) (Nat.le_refl _)
  · intro H locs ls pc st q ce hP1 hS1 hls hce hcv hcl
    exact vx_out (fun x hx => (htab x hx).elim) B.notSynchronized hce hcv hcl (fun t ht _ => ⟨(), trivial, ⟨rfl, by rw [ht]; exact hP1⟩, hS1.F ht⟩) (fun q hq => hS1.2.2 q hq) (Nat.le_refl _) (Nat.le_refl _)
