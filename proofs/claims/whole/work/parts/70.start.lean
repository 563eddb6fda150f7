/-! the start: what the tables and the premises give -/
theorem sel_priv {C : String} {x y : MethodName} {args : Array Value} {s : State} (hx : (Cond.selects C x x).before args s = true) (hcl : x.cls = y.cls) (hy : y.cls ≠ "java/lang/invoke/MethodHandle" ∧ y.cls ≠ "java/lang/invoke/VarHandle") (hpriv : (Cond.privateMethod y).before args s = true) (hinst : (Cond.instanceMethod y).before args s = true) : (Cond.selects C y y).before args s = true := by
  obtain ⟨c, r, m, h1, h2, h3, h4, mk, h5, h6⟩ := Cond.selects_spec hx
  obtain ⟨mk2, methM, hnamed, hmethM, -, -⟩ := Cond.instanceMethod_spec hinst
  have hfound : s.methodFound? y.cls y.name y.desc = some mk2 := State.methodFound?_of_named hnamed hy
  have hsel : selectMethod {} s.vm c mk2 = .method mk2 := selectMethod_private hmethM (Cond.privateMethod_at hpriv mk2 methM hnamed hmethM)
  have e1 : m.cls = mk2.cls := Option.some.inj ((findClass_of_methodNamed h3).symm.trans ((congrArg s.vm.findClass hcl).trans (findClass_of_methodNamed hnamed)))
  rw [e1] at h5
  simp only [Cond.before, Cond.holds, Cond.value, h1, hfound, hnamed, hsel, h5]
  simp
  exact h6
theorem arr_prim {ty : FieldType} {args : Array Value} {s : State} (hp : ∀ C, ty ≠ .object C) (h : (Cond.arrayClass ty).before args s = true) : ∃ cA : ClassId, ArrOfT s cA ty ∧ va_RA s cA ty := by
  obtain ⟨c, k, comp, h1, h2, h3⟩ := Cond.arrayClass_spec h
  exact ⟨c, fun n z => ⟨fun k h => (by cases h), k, h2, comp, h3⟩, by cases ty <;> first | exact h1 | exact absurd rfl (hp _)⟩
theorem arr_obj {C : String} {args : Array Value} {s : State} (h : (Cond.arrayOver (.object C)).before args s = true) : ∃ cA : ClassId, ArrOfT s cA (.object C) ∧ va_RA s cA (.object C) := by
  obtain ⟨comp, c, k, h1, h2, h3, h4, h5⟩ := Cond.arrayOver_spec h
  exact ⟨c, fun n z => ⟨fun k h => (by cases h), k, h3, comp, h4⟩, k, comp, h3, h4, h1, h5⟩
theorem gw_start {args : Array Value} {s : State} (hts : ∀ w ∈ lw_tbl, w.before args s = true) : ∀ w ∈ GW, w.before args s = true := by
  intro w hw
  rcases List.mem_append.mp hw with h | h
  · simp only [eS, List.mem_cons, List.not_mem_nil, or_false] at h
    rcases h with rfl | rfl | rfl | rfl | rfl | rfl | rfl | rfl
    · exact sel_priv (x := yX3_execute) (hts _ (List.mem_append_right _ (tb5 (i := 80) rfl))) rfl (by decide +kernel) (hts _ (List.mem_append_right _ (tb5 (i := 84) rfl))) (hts _ (List.mem_append_right _ (tb5 (i := 85) rfl)))
    · exact sel_priv (x := yX3_execute) (hts _ (List.mem_append_right _ (tb5 (i := 80) rfl))) rfl (by decide +kernel) (hts _ (List.mem_append_right _ (tb5 (i := 106) rfl))) (hts _ (List.mem_append_right _ (tb5 (i := 107) rfl)))
    · exact sel_priv (x := yX3_execute) (hts _ (List.mem_append_right _ (tb5 (i := 80) rfl))) rfl (by decide +kernel) (hts _ (List.mem_append_right _ (tb5 (i := 128) rfl))) (hts _ (List.mem_append_right _ (tb5 (i := 129) rfl)))
    · exact sel_priv (x := yX3_execute) (hts _ (List.mem_append_right _ (tb5 (i := 80) rfl))) rfl (by decide +kernel) (hts _ (List.mem_append_right _ (tb5 (i := 166) rfl))) (hts _ (List.mem_append_right _ (tb5 (i := 167) rfl)))
    · exact sel_priv (x := yX3_execute) (hts _ (List.mem_append_right _ (tb5 (i := 81) rfl))) rfl (by decide +kernel) (hts _ (List.mem_append_right _ (tb5 (i := 84) rfl))) (hts _ (List.mem_append_right _ (tb5 (i := 85) rfl)))
    · exact sel_priv (x := yX3_execute) (hts _ (List.mem_append_right _ (tb5 (i := 81) rfl))) rfl (by decide +kernel) (hts _ (List.mem_append_right _ (tb5 (i := 106) rfl))) (hts _ (List.mem_append_right _ (tb5 (i := 107) rfl)))
    · exact sel_priv (x := yX3_execute) (hts _ (List.mem_append_right _ (tb5 (i := 81) rfl))) rfl (by decide +kernel) (hts _ (List.mem_append_right _ (tb5 (i := 128) rfl))) (hts _ (List.mem_append_right _ (tb5 (i := 129) rfl)))
    · exact sel_priv (x := yX3_execute) (hts _ (List.mem_append_right _ (tb5 (i := 81) rfl))) rfl (by decide +kernel) (hts _ (List.mem_append_right _ (tb5 (i := 166) rfl))) (hts _ (List.mem_append_right _ (tb5 (i := 167) rfl)))
  · exact hts w (List.mem_filter.mp h).1
theorem cl_start {args : Array Value} {s : State} (hts : ∀ w ∈ lw_tbl, w.before args s = true) : ∃ (D : va_G) (cA : Nat → ClassId), va_K D CL (TY cA) s := by
  have hg := gw_start hts
  obtain ⟨c0, i0, k0⟩ := u_known (C := RX0) (T := TX0) (N := 10) (n := 10) hg inGX0 (hg _ w1_46)
  obtain ⟨c1, i1, k1⟩ := u_known (C := RX1) (T := TX1) (N := 7) (n := 7) hg inGX1 (hg _ w1_140)
  obtain ⟨c2, i2, k2⟩ := u_known (C := RX2) (T := TX2) (N := 4) (n := 4) hg inGX2 (hg _ w1_172)
  obtain ⟨c3, i3, k3⟩ := u_known (C := RX4) (T := TX4) (N := 9) (n := 9) hg inGX4 (hg _ w2_18)
  obtain ⟨c4, i4, k4⟩ := u_known (C := RX5) (T := TX5) (N := 13) (n := 13) hg inGX5 (hg _ w1_199)
  obtain ⟨c5, i5, k5⟩ := u_known (C := RX6) (T := TX6) (N := 14) (n := 14) hg inGX6 (hg _ w2_73)
  obtain ⟨c6, i6, k6⟩ := u_known (C := RX7) (T := TX7) (N := 3) (n := 3) hg inGX7 (hg _ w1_39)
  obtain ⟨c7, i7, k7⟩ := u_known (C := RX8) (T := TX8) (N := 5) (n := 5) hg inGX8 (hg _ w2_106)
  obtain ⟨c8, i8, k8⟩ := u_known (C := RX9) (T := TX9) (N := 14) (n := 14) hg inGX9 (hg _ w1_31)
  obtain ⟨c9, i9, k9⟩ := u_known (C := RX10) (T := TX10) (N := 66) (n := 66) hg inGX10 (hg _ w6_97)
  obtain ⟨a0, g0⟩ := arr_prim (ty := .int) (fun _ h => nomatch h) (hg _ w1_116)
  obtain ⟨a1, g1⟩ := arr_prim (ty := .char) (fun _ h => nomatch h) (hg _ w2_133)
  obtain ⟨a2, g2⟩ := arr_obj (C := RX0) (hts _ (List.mem_append_right _ (tb1 (i := 45) rfl)))
  obtain ⟨a3, g3⟩ := arr_prim (ty := .long) (fun _ h => nomatch h) (hg _ w8_181)
  refine ⟨(fun k => [c0, c1, c2, c3, c4, c5, c6, c7, c8, c9].getD k c0, fun k => [i0, i1, i2, i3, i4, i5, i6, i7, i8, i9].getD k i0), fun k => [a0, a1, a2, a3].getD k a0, fun k q hq => ?_, fun k q hq => ?_⟩
  · match k, hq with
    | 0, hq => cases hq; exact k0
    | 1, hq => cases hq; exact k1
    | 2, hq => cases hq; exact k2
    | 3, hq => cases hq; exact k3
    | 4, hq => cases hq; exact k4
    | 5, hq => cases hq; exact k5
    | 6, hq => cases hq; exact k6
    | 7, hq => cases hq; exact k7
    | 8, hq => cases hq; exact k8
    | 9, hq => cases hq; exact k9
    | k + 10, hq => simp [CL] at hq
  · match k, hq with
    | 0, hq => cases hq; exact g0
    | 1, hq => cases hq; exact g1
    | 2, hq => cases hq; exact g2
    | 3, hq => cases hq; exact g3
    | k + 4, hq => simp [TY] at hq
theorem nw_start {args : Array Value} {s : State} (hts : ∀ w ∈ lw_tbl, w.before args s = true) : ∀ w ∈ NW, va_Nw w s := by
  intro w hw
  obtain ⟨h1, h2⟩ := List.mem_filter.mp hw
  have h3 := hts w (List.mem_append_right _ h1)
  cases w <;> first | exact va_Nw.of rfl h3 | cases h2
theorem nc_start {args : Array Value} {s : State} (hgv : (Jvm.Cond.and given_1 narrow_1).before args s = true) : ncs s := by
  have hs := flat_of_before _ hgv
  have n12 : va_Nc (xname 1) (xname 2) s := va_Nc.of (hs (.not (.castable "java/lang/IllegalArgumentException" "java/lang/IndexOutOfBoundsException")) (by decide +kernel))
  have n13 : va_Nc (xname 1) (xname 3) s := va_Nc.of (hs (.not (.castable "java/lang/IllegalArgumentException" "java/lang/IllegalStateException")) (by decide +kernel))
  have n14 : va_Nc (xname 1) (xname 4) s := va_Nc.of (hs (.not (.castable "java/lang/IllegalArgumentException" "java/util/NoSuchElementException")) (by decide +kernel))
  have n15 : va_Nc (xname 1) (xname 5) s := va_Nc.of (hs (.not (.castable "java/lang/IllegalArgumentException" "java/lang/UnsupportedOperationException")) (by decide +kernel))
  have n16 : va_Nc (xname 1) (xname 6) s := va_Nc.of (hs (.not (.castable "java/lang/IllegalArgumentException" "java/lang/ArithmeticException")) (by decide +kernel))
  have n21 : va_Nc (xname 2) (xname 1) s := va_Nc.of (hs (.not (.castable "java/lang/IndexOutOfBoundsException" "java/lang/IllegalArgumentException")) (by decide +kernel))
  have n23 : va_Nc (xname 2) (xname 3) s := va_Nc.of (hs (.not (.castable "java/lang/IndexOutOfBoundsException" "java/lang/IllegalStateException")) (by decide +kernel))
  have n24 : va_Nc (xname 2) (xname 4) s := va_Nc.of (hs (.not (.castable "java/lang/IndexOutOfBoundsException" "java/util/NoSuchElementException")) (by decide +kernel))
  have n25 : va_Nc (xname 2) (xname 5) s := va_Nc.of (hs (.not (.castable "java/lang/IndexOutOfBoundsException" "java/lang/UnsupportedOperationException")) (by decide +kernel))
  have n26 : va_Nc (xname 2) (xname 6) s := va_Nc.of (hs (.not (.castable "java/lang/IndexOutOfBoundsException" "java/lang/ArithmeticException")) (by decide +kernel))
  have n31 : va_Nc (xname 3) (xname 1) s := va_Nc.of (hs (.not (.castable "java/lang/IllegalStateException" "java/lang/IllegalArgumentException")) (by decide +kernel))
  have n32 : va_Nc (xname 3) (xname 2) s := va_Nc.of (hs (.not (.castable "java/lang/IllegalStateException" "java/lang/IndexOutOfBoundsException")) (by decide +kernel))
  have n34 : va_Nc (xname 3) (xname 4) s := va_Nc.of (hs (.not (.castable "java/lang/IllegalStateException" "java/util/NoSuchElementException")) (by decide +kernel))
  have n35 : va_Nc (xname 3) (xname 5) s := va_Nc.of (hs (.not (.castable "java/lang/IllegalStateException" "java/lang/UnsupportedOperationException")) (by decide +kernel))
  have n36 : va_Nc (xname 3) (xname 6) s := va_Nc.of (hs (.not (.castable "java/lang/IllegalStateException" "java/lang/ArithmeticException")) (by decide +kernel))
  have n41 : va_Nc (xname 4) (xname 1) s := va_Nc.of (hs (.not (.castable "java/util/NoSuchElementException" "java/lang/IllegalArgumentException")) (by decide +kernel))
  have n42 : va_Nc (xname 4) (xname 2) s := va_Nc.of (hs (.not (.castable "java/util/NoSuchElementException" "java/lang/IndexOutOfBoundsException")) (by decide +kernel))
  have n43 : va_Nc (xname 4) (xname 3) s := va_Nc.of (hs (.not (.castable "java/util/NoSuchElementException" "java/lang/IllegalStateException")) (by decide +kernel))
  have n45 : va_Nc (xname 4) (xname 5) s := va_Nc.of (hs (.not (.castable "java/util/NoSuchElementException" "java/lang/UnsupportedOperationException")) (by decide +kernel))
  have n46 : va_Nc (xname 4) (xname 6) s := va_Nc.of (hs (.not (.castable "java/util/NoSuchElementException" "java/lang/ArithmeticException")) (by decide +kernel))
  have n51 : va_Nc (xname 5) (xname 1) s := va_Nc.of (hs (.not (.castable "java/lang/UnsupportedOperationException" "java/lang/IllegalArgumentException")) (by decide +kernel))
  have n52 : va_Nc (xname 5) (xname 2) s := va_Nc.of (hs (.not (.castable "java/lang/UnsupportedOperationException" "java/lang/IndexOutOfBoundsException")) (by decide +kernel))
  have n53 : va_Nc (xname 5) (xname 3) s := va_Nc.of (hs (.not (.castable "java/lang/UnsupportedOperationException" "java/lang/IllegalStateException")) (by decide +kernel))
  have n54 : va_Nc (xname 5) (xname 4) s := va_Nc.of (hs (.not (.castable "java/lang/UnsupportedOperationException" "java/util/NoSuchElementException")) (by decide +kernel))
  have n56 : va_Nc (xname 5) (xname 6) s := va_Nc.of (hs (.not (.castable "java/lang/UnsupportedOperationException" "java/lang/ArithmeticException")) (by decide +kernel))
  have n61 : va_Nc (xname 6) (xname 1) s := va_Nc.of (hs (.not (.castable "java/lang/ArithmeticException" "java/lang/IllegalArgumentException")) (by decide +kernel))
  have n62 : va_Nc (xname 6) (xname 2) s := va_Nc.of (hs (.not (.castable "java/lang/ArithmeticException" "java/lang/IndexOutOfBoundsException")) (by decide +kernel))
  have n63 : va_Nc (xname 6) (xname 3) s := va_Nc.of (hs (.not (.castable "java/lang/ArithmeticException" "java/lang/IllegalStateException")) (by decide +kernel))
  have n64 : va_Nc (xname 6) (xname 4) s := va_Nc.of (hs (.not (.castable "java/lang/ArithmeticException" "java/util/NoSuchElementException")) (by decide +kernel))
  have n65 : va_Nc (xname 6) (xname 5) s := va_Nc.of (hs (.not (.castable "java/lang/ArithmeticException" "java/lang/UnsupportedOperationException")) (by decide +kernel))
  intro a b h1 h2 h3 h4 h5
  have ha : a = 1 ∨ a = 2 ∨ a = 3 ∨ a = 4 ∨ a = 5 ∨ a = 6 := by omega
  have hb : b = 1 ∨ b = 2 ∨ b = 3 ∨ b = 4 ∨ b = 5 ∨ b = 6 := by omega
  rcases ha with rfl | rfl | rfl | rfl | rfl | rfl <;> rcases hb with rfl | rfl | rfl | rfl | rfl | rfl <;> first | exact absurd rfl h5 | assumption
theorem str_of {own tx : String} {k : Nat} {args : Array Value} {s : State} (h1 : (Cond.stringRef own k tx).before args s = true) (h2 : (Cond.exactly (.string own k) "java/lang/String").before args s = true) : ∃ sa, vk_R own k tx sa s := by
  obtain ⟨a, c, cA, kA, q1, -⟩ := Cond.exactly_spec (args := args) (first := s) (o := none) (s := s) (idx := []) (t := .string own k) (cls := "java/lang/String") h2
  exact ⟨a, vk_R.of h1 q1⟩
theorem str_start {args : Array Value} {s : State} (hts : ∀ w ∈ lw_tbl, w.before args s = true) (hgv : (Jvm.Cond.and given_1 narrow_1).before args s = true) : ∀ t ∈ STR, ∃ sa, vk_R RX9 t.1 t.2 sa s := by
  have hs := flat_of_before _ hgv
  intro t ht
  simp only [STR, List.mem_cons, List.not_mem_nil, or_false] at ht
  rcases ht with rfl | rfl | rfl | rfl | rfl | rfl | rfl | rfl | rfl | rfl | rfl | rfl | rfl | rfl | rfl | rfl | rfl | rfl | rfl | rfl | rfl | rfl | rfl | rfl
  · exact str_of (hts _ (List.mem_append_right _ (tb3 (i := 137) rfl))) (hs (.exactly (.string "SpillPlanner" 78) "java/lang/String") (by decide +kernel))
  · exact str_of (hts _ (List.mem_append_right _ (tb3 (i := 215) rfl))) (hs (.exactly (.string "SpillPlanner" 363) "java/lang/String") (by decide +kernel))
  · exact str_of (hts _ (List.mem_append_right _ (tb3 (i := 225) rfl))) (hs (.exactly (.string "SpillPlanner" 101) "java/lang/String") (by decide +kernel))
  · exact str_of (hts _ (List.mem_append_right _ (tb3 (i := 235) rfl))) (hs (.exactly (.string "SpillPlanner" 112) "java/lang/String") (by decide +kernel))
  · exact str_of (hts _ (List.mem_append_right _ (tb4 (i := 23) rfl))) (hs (.exactly (.string "SpillPlanner" 121) "java/lang/String") (by decide +kernel))
  · exact str_of (hts _ (List.mem_append_right _ (tb4 (i := 37) rfl))) (hs (.exactly (.string "SpillPlanner" 127) "java/lang/String") (by decide +kernel))
  · exact str_of (hts _ (List.mem_append_right _ (tb4 (i := 42) rfl))) (hs (.exactly (.string "SpillPlanner" 368) "java/lang/String") (by decide +kernel))
  · exact str_of (hts _ (List.mem_append_right _ (tb4 (i := 51) rfl))) (hs (.exactly (.string "SpillPlanner" 138) "java/lang/String") (by decide +kernel))
  · exact str_of (hts _ (List.mem_append_right _ (tb4 (i := 66) rfl))) (hs (.exactly (.string "SpillPlanner" 158) "java/lang/String") (by decide +kernel))
  · exact str_of (hts _ (List.mem_append_right _ (tb4 (i := 74) rfl))) (hs (.exactly (.string "SpillPlanner" 169) "java/lang/String") (by decide +kernel))
  · exact str_of (hts _ (List.mem_append_right _ (tb4 (i := 82) rfl))) (hs (.exactly (.string "SpillPlanner" 171) "java/lang/String") (by decide +kernel))
  · exact str_of (hts _ (List.mem_append_right _ (tb4 (i := 101) rfl))) (hs (.exactly (.string "SpillPlanner" 370) "java/lang/String") (by decide +kernel))
  · exact str_of (hts _ (List.mem_append_right _ (tb4 (i := 110) rfl))) (hs (.exactly (.string "SpillPlanner" 202) "java/lang/String") (by decide +kernel))
  · exact str_of (hts _ (List.mem_append_right _ (tb4 (i := 140) rfl))) (hs (.exactly (.string "SpillPlanner" 213) "java/lang/String") (by decide +kernel))
  · exact str_of (hts _ (List.mem_append_right _ (tb4 (i := 158) rfl))) (hs (.exactly (.string "SpillPlanner" 219) "java/lang/String") (by decide +kernel))
  · exact str_of (hts _ (List.mem_append_right _ (tb5 (i := 18) rfl))) (hs (.exactly (.string "SpillPlanner" 232) "java/lang/String") (by decide +kernel))
  · exact str_of (hts _ (List.mem_append_right _ (tb5 (i := 23) rfl))) (hs (.exactly (.string "SpillPlanner" 372) "java/lang/String") (by decide +kernel))
  · exact str_of (hts _ (List.mem_append_right _ (tb5 (i := 31) rfl))) (hs (.exactly (.string "SpillPlanner" 249) "java/lang/String") (by decide +kernel))
  · exact str_of (hts _ (List.mem_append_right _ (tb5 (i := 39) rfl))) (hs (.exactly (.string "SpillPlanner" 251) "java/lang/String") (by decide +kernel))
  · exact str_of (hts _ (List.mem_append_right _ (tb5 (i := 72) rfl))) (hs (.exactly (.string "SpillPlanner" 374) "java/lang/String") (by decide +kernel))
  · exact str_of (hts _ (List.mem_append_right _ (tb5 (i := 170) rfl))) (hs (.exactly (.string "SpillPlanner" 336) "java/lang/String") (by decide +kernel))
  · exact str_of (hts _ (List.mem_append_right _ (tb5 (i := 187) rfl))) (hs (.exactly (.string "SpillPlanner" 289) "java/lang/String") (by decide +kernel))
  · exact str_of (hts _ (List.mem_append_right _ (tb5 (i := 202) rfl))) (hs (.exactly (.string "SpillPlanner" 294) "java/lang/String") (by decide +kernel))
  · exact str_of (hts _ (List.mem_append_right _ (tb6 (i := 91) rfl))) (hs (.exactly (.string "SpillPlanner" 320) "java/lang/String") (by decide +kernel))
theorem txt0_start {args : Array Value} {s : State} (hts : ∀ w ∈ lw_tbl, w.before args s = true) (hgv : (Jvm.Cond.and given_1 narrow_1).before args s = true) : ∃ a v : Nat, vk_R RX8 74 "go " a s ∧ vk_S 1 [3] [[103, 111, 32]] (fun _ => a) (fun _ => v) (fun q => s.heap.size ≤ q) s s.heap := by
  have hs := flat_of_before _ hgv
  obtain ⟨adK, adV, h1, h2⟩ := vk_Sof (args := args) (s := s) (N := 1) (tm := fun _ => .string "SpillPlanner$Reader" 74) (len := [3]) (byt := [[103, 111, 32]]) (A := fun q => s.heap.size ≤ q) (fun i hi => by rcases (show i = 0 by omega) with rfl; decide) (fun i hi => hs (.exactly (.string "SpillPlanner$Reader" 74) "java/lang/String") (by decide +kernel)) (fun i hi => hs (.eq (.field (.string "SpillPlanner$Reader" 74) "java/lang/String" "coder" "B") (.int 0)) (by decide +kernel)) (fun i hi => hs (.arrayOf (.field (.string "SpillPlanner$Reader" 74) "java/lang/String" "value" "[B") .byte) (by decide +kernel))
    (fun i hi => by
      rcases (show i = 0 by omega) with rfl
      exact hs (.eq (.length (.field (.string "SpillPlanner$Reader" 74) "java/lang/String" "value" "[B")) (.int 3)) (by decide +kernel))
    (fun i hi j hj => by
      rcases (show i = 0 by omega) with rfl
      have hj : j < 3 := hj
      rcases (show j = 0 ∨ j = 1 ∨ j = 2 by omega) with rfl | rfl | rfl
      · exact hs (.eq (.elem (.field (.string "SpillPlanner$Reader" 74) "java/lang/String" "value" "[B") (.int 0)) (.int 103)) (by decide +kernel)
      · exact hs (.eq (.elem (.field (.string "SpillPlanner$Reader" 74) "java/lang/String" "value" "[B") (.int 1)) (.int 111)) (by decide +kernel)
      · exact hs (.eq (.elem (.field (.string "SpillPlanner$Reader" 74) "java/lang/String" "value" "[B") (.int 2)) (.int 32)) (by decide +kernel)) (fun i j hi hj h => absurd (by omega) h) (fun a ha h => absurd ha (Nat.not_lt.mpr h))
  refine ⟨adK 0, adV 0, vk_R.of (hts _ (List.mem_append_right _ (tb6 (i := 15) rfl))) (h2 0 (by decide)), fun i hi => ?_, fun i j hi hj _ => by omega⟩
  rcases (show i = 0 by omega) with rfl
  exact h1.1 0 (by decide)
theorem txt1_start {args : Array Value} {s : State} (hts : ∀ w ∈ lw_tbl, w.before args s = true) (hgv : (Jvm.Cond.and given_1 narrow_1).before args s = true) : ∃ a v : Nat, vk_R RX8 87 "if " a s ∧ vk_S 1 [3] [[105, 102, 32]] (fun _ => a) (fun _ => v) (fun q => s.heap.size ≤ q) s s.heap := by
  have hs := flat_of_before _ hgv
  obtain ⟨adK, adV, h1, h2⟩ := vk_Sof (args := args) (s := s) (N := 1) (tm := fun _ => .string "SpillPlanner$Reader" 87) (len := [3]) (byt := [[105, 102, 32]]) (A := fun q => s.heap.size ≤ q) (fun i hi => by rcases (show i = 0 by omega) with rfl; decide) (fun i hi => hs (.exactly (.string "SpillPlanner$Reader" 87) "java/lang/String") (by decide +kernel)) (fun i hi => hs (.eq (.field (.string "SpillPlanner$Reader" 87) "java/lang/String" "coder" "B") (.int 0)) (by decide +kernel)) (fun i hi => hs (.arrayOf (.field (.string "SpillPlanner$Reader" 87) "java/lang/String" "value" "[B") .byte) (by decide +kernel))
    (fun i hi => by
      rcases (show i = 0 by omega) with rfl
      exact hs (.eq (.length (.field (.string "SpillPlanner$Reader" 87) "java/lang/String" "value" "[B")) (.int 3)) (by decide +kernel))
    (fun i hi j hj => by
      rcases (show i = 0 by omega) with rfl
      have hj : j < 3 := hj
      rcases (show j = 0 ∨ j = 1 ∨ j = 2 by omega) with rfl | rfl | rfl
      · exact hs (.eq (.elem (.field (.string "SpillPlanner$Reader" 87) "java/lang/String" "value" "[B") (.int 0)) (.int 105)) (by decide +kernel)
      · exact hs (.eq (.elem (.field (.string "SpillPlanner$Reader" 87) "java/lang/String" "value" "[B") (.int 1)) (.int 102)) (by decide +kernel)
      · exact hs (.eq (.elem (.field (.string "SpillPlanner$Reader" 87) "java/lang/String" "value" "[B") (.int 2)) (.int 32)) (by decide +kernel)) (fun i j hi hj h => absurd (by omega) h) (fun a ha h => absurd ha (Nat.not_lt.mpr h))
  refine ⟨adK 0, adV 0, vk_R.of (hts _ (List.mem_append_right _ (tb6 (i := 77) rfl))) (h2 0 (by decide)), fun i hi => ?_, fun i j hi hj _ => by omega⟩
  rcases (show i = 0 by omega) with rfl
  exact h1.1 0 (by decide)
theorem txt2_start {args : Array Value} {s : State} (hts : ∀ w ∈ lw_tbl, w.before args s = true) (hgv : (Jvm.Cond.and given_1 narrow_1).before args s = true) : ∃ a v : Nat, vk_R RX8 92 "stop " a s ∧ vk_S 1 [5] [[115, 116, 111, 112, 32]] (fun _ => a) (fun _ => v) (fun q => s.heap.size ≤ q) s s.heap := by
  have hs := flat_of_before _ hgv
  obtain ⟨adK, adV, h1, h2⟩ := vk_Sof (args := args) (s := s) (N := 1) (tm := fun _ => .string "SpillPlanner$Reader" 92) (len := [5]) (byt := [[115, 116, 111, 112, 32]]) (A := fun q => s.heap.size ≤ q) (fun i hi => by rcases (show i = 0 by omega) with rfl; decide) (fun i hi => hs (.exactly (.string "SpillPlanner$Reader" 92) "java/lang/String") (by decide +kernel)) (fun i hi => hs (.eq (.field (.string "SpillPlanner$Reader" 92) "java/lang/String" "coder" "B") (.int 0)) (by decide +kernel)) (fun i hi => hs (.arrayOf (.field (.string "SpillPlanner$Reader" 92) "java/lang/String" "value" "[B") .byte) (by decide +kernel))
    (fun i hi => by
      rcases (show i = 0 by omega) with rfl
      exact hs (.eq (.length (.field (.string "SpillPlanner$Reader" 92) "java/lang/String" "value" "[B")) (.int 5)) (by decide +kernel))
    (fun i hi j hj => by
      rcases (show i = 0 by omega) with rfl
      have hj : j < 5 := hj
      rcases (show j = 0 ∨ j = 1 ∨ j = 2 ∨ j = 3 ∨ j = 4 by omega) with rfl | rfl | rfl | rfl | rfl
      · exact hs (.eq (.elem (.field (.string "SpillPlanner$Reader" 92) "java/lang/String" "value" "[B") (.int 0)) (.int 115)) (by decide +kernel)
      · exact hs (.eq (.elem (.field (.string "SpillPlanner$Reader" 92) "java/lang/String" "value" "[B") (.int 1)) (.int 116)) (by decide +kernel)
      · exact hs (.eq (.elem (.field (.string "SpillPlanner$Reader" 92) "java/lang/String" "value" "[B") (.int 2)) (.int 111)) (by decide +kernel)
      · exact hs (.eq (.elem (.field (.string "SpillPlanner$Reader" 92) "java/lang/String" "value" "[B") (.int 3)) (.int 112)) (by decide +kernel)
      · exact hs (.eq (.elem (.field (.string "SpillPlanner$Reader" 92) "java/lang/String" "value" "[B") (.int 4)) (.int 32)) (by decide +kernel)) (fun i j hi hj h => absurd (by omega) h) (fun a ha h => absurd ha (Nat.not_lt.mpr h))
  refine ⟨adK 0, adV 0, vk_R.of (hts _ (List.mem_append_right _ (tb6 (i := 82) rfl))) (h2 0 (by decide)), fun i hi => ?_, fun i j hi hj _ => by omega⟩
  rcases (show i = 0 by omega) with rfl
  exact h1.1 0 (by decide)
theorem txt_ne {a b v u : Nat} {A : Nat → Prop} {s : State} {H : Heap} {x y : Int32} {n m : Nat} {f g : List Int32} (h1 : vk_S 1 [n] [x :: f] (fun _ => a) (fun _ => v) A s H) (h2 : vk_S 1 [m] [y :: g] (fun _ => b) (fun _ => u) A s H) (hn : 0 < n) (hm : 0 < m) (hxy : x ≠ y) : a ≠ b := by
  intro e
  subst e
  obtain ⟨-, -, ⟨cf, k, i, fd, cell, p1, p2, p3, p4, p5, p6⟩, cellV, q1, q2, q3, q4, q5, q6, q7⟩ := h1.1 0 (by decide)
  obtain ⟨-, -, ⟨cf', k', i', fd', cell', p1', p2', p3', p4', p5', p6'⟩, cellV', q1', q2', q3', q4', q5', q6', q7'⟩ := h2.1 0 (by decide)
  cases Option.some.inj (p1.symm.trans p1')
  cases Option.some.inj (p3.symm.trans p3')
  cases Option.some.inj (p5.symm.trans p5')
  cases Option.some.inj (q1.symm.trans q1')
  have e1 := (q6 0 hn).symm.trans (q6' 0 hm)
  simp at e1
  exact hxy e1
theorem txt_start {args : Array Value} {s : State} (hts : ∀ w ∈ lw_tbl, w.before args s = true) (hgv : (Jvm.Cond.and given_1 narrow_1).before args s = true) : ∃ adK adV : Nat → Nat, (∀ i, i < 3 → vk_R RX8 (sTXT.getD i (0, "")).1 (sTXT.getD i (0, "")).2 (adK i) s) ∧ vk_S 3 sLEN sBYT adK adV (fun q => s.heap.size ≤ q) s s.heap := by
  obtain ⟨a0, v0, r0, s0⟩ := txt0_start hts hgv
  obtain ⟨a1, v1, r1, s1⟩ := txt1_start hts hgv
  obtain ⟨a2, v2, r2, s2⟩ := txt2_start hts hgv
  have n01 := txt_ne s0 s1 (by decide) (by decide) (by decide)
  have n02 := txt_ne s0 s2 (by decide) (by decide) (by decide)
  have n12 := txt_ne s1 s2 (by decide) (by decide) (by decide)
  refine ⟨fun i => [a0, a1, a2].getD i 0, fun i => [v0, v1, v2].getD i 0, fun i hi => ?_, fun i hi => ?_, fun i j hi hj e => ?_⟩
  · rcases (show i = 0 ∨ i = 1 ∨ i = 2 by omega) with rfl | rfl | rfl
    · exact r0
    · exact r1
    · exact r2
  · rcases (show i = 0 ∨ i = 1 ∨ i = 2 by omega) with rfl | rfl | rfl
    · exact s0.1 0 (by decide)
    · exact s1.1 0 (by decide)
    · exact s2.1 0 (by decide)
  · rcases (show i = 0 ∨ i = 1 ∨ i = 2 by omega) with rfl | rfl | rfl <;> rcases (show j = 0 ∨ j = 1 ∨ j = 2 by omega) with rfl | rfl | rfl <;> first | rfl | exact absurd e n01 | exact absurd e n02 | exact absurd e n12 | exact absurd e.symm n01 | exact absurd e.symm n02 | exact absurd e.symm n12
theorem xt_start {args : Array Value} {s : State} (hts : ∀ w ∈ lw_tbl, w.before args s = true) (hgv : (Jvm.Cond.and given_1 narrow_1).before args s = true) {ad : Nat → Nat} (hk : vk_S 3 sLEN sBYT (fun i => ad (1000 + i)) (fun i => ad (1010 + i)) (fun q => s.heap.size ≤ q) s s.heap) : xtra ad (fun q => s.heap.size ≤ q) s s.heap := by
  have hs := flat_of_before _ hgv
  have hA : ∀ a : Nat, a < s.heap.size → ¬ (fun q => s.heap.size ≤ q) a := fun a ha h => absurd ha (Nat.not_lt.mpr h)
  refine ⟨vx_Zqof (hts _ (List.mem_append_right _ (tb3 (i := 119) rfl))) (hts _ (List.mem_append_right _ (tb1 (i := 12) rfl))) (hs (.isRef (.static Bundle.tN "UNASSIGNED_STACK" Bundle.steD)) (by decide +kernel)) hA, vx_Zqof (hts _ (List.mem_append_right _ (tb3 (i := 121) rfl))) (hts _ (List.mem_append_right _ (tb1 (i := 12) rfl))) (hs (.isRef (.static Bundle.tN "SUPPRESSED_SENTINEL" Bundle.listD)) (by decide +kernel)) hA, hk, va_Zof (hts _ (List.mem_append_right _ (tb6 (i := 29) rfl))) (hts _ (List.mem_append_right _ (tb1 (i := 19) rfl))) (va_eqt (hs (.eq (.static "java/lang/String" "COMPACT_STRINGS" "Z") (.int 1)) (by decide +kernel))) hA, va_Zqof (hts _ (List.mem_append_right _ (tb6 (i := 45) rfl))) (hts _ (List.mem_append_right _ (tb1 (i := 28) rfl))) (hs (.isRef (.static "jdk/internal/util/Preconditions" "SIOOBE_FORMATTER" "Ljava/util/function/BiFunction;")) (by decide +kernel)) hA⟩
