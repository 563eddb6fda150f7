theorem cok_RL_8 : cok 8 14 RL 8 [.null, .null, .null, .null, .null, .null, .null, .null, .null, .null, .null, .int 0, .int 0, .int 0] := ⟨RX9, TX9, tyX9, rfl, inGX9, tyX9_ok, w1_30, w1_31, w1_1, by decide +kernel⟩
theorem cok_RL_98 : cok 9 66 RL 98 [.int 0, .int 0, .int 0, .null, .null, .null, .null, .null, .null, .null, .null, .null, .null, .null, .int 0, .null, .null, .int 0, .null, .null, .int 0, .int 0, .int 0, .null, .null, .null, .null, .null, .null, .null, .null, .null, .null, .null, .null, .null, .null, .null, .int 0, .int 0, .int 0, .int 0, .null, .int 0, .int 0, .int 0, .null, .null, .null, .null, .int 0, .int 0, .int 0, .int 0, .int 0, .null, .null, .null, .null, .null, .null, .null, .null, .null, .null, .null] := ⟨RX10, TX10, tyX10, rfl, inGX10, tyX10_ok, w6_96, w6_97, w1_11, by decide +kernel⟩
theorem mk_RL_97 : Cond.code yX9_init cX9_init 5 none ∈ GW ∧ Cond.initialized yX9_init.cls ∈ GW ∧ Cond.instanceMethod yX9_init ∈ GW ∧ (Cond.methodLink RL 97 yX9_init ∈ GW ∨ (true = true ∧ ∃ host, Cond.methodLinkNest RL 97 yX9_init host ∈ NW)) ∧ yX9_init.cls ≠ "java/lang/invoke/MethodHandle" ∧ yX9_init.cls ≠ "java/lang/invoke/VarHandle" ∧ (parseMethodDescriptor yX9_init.desc).map (fun d => d.parameters.length) = some 0 := ⟨w1_34, w1_1, w1_33, Or.inl w1_32, by decide +kernel, by decide +kernel, by decide +kernel⟩
theorem mk_RL_100 : Cond.code yX10_init cX10_init 1 none ∈ GW ∧ Cond.initialized yX10_init.cls ∈ GW ∧ Cond.instanceMethod yX10_init ∈ GW ∧ (Cond.methodLink RL 100 yX10_init ∈ GW ∨ (true = true ∧ ∃ host, Cond.methodLinkNest RL 100 yX10_init host ∈ NW)) ∧ yX10_init.cls ≠ "java/lang/invoke/MethodHandle" ∧ yX10_init.cls ≠ "java/lang/invoke/VarHandle" ∧ (parseMethodDescriptor yX10_init.desc).map (fun d => d.parameters.length) = some 0 := ⟨w6_100, w1_11, w6_99, Or.inl w6_98, by decide +kernel, by decide +kernel, by decide +kernel⟩
set_option maxHeartbeats 8000000 in
set_option maxRecDepth 100000 in
/-- the law's beginning: both objects and the row for the answer are made -/
theorem law_begin {X : sT} (hX : bX X cL_law RL 7 20 10830 603072 7186538) {b : Nat} (kk : ∀ (h1 h2 h3 : Nat) (k1 k2 : Nat → Nat) (cs : Nat × Nat), cs.1 ≤ 1000 ∧ cs.2 ≤ 10000 → bW X 7 cs (wAll (scA X) h1 h2 h3 k1 k2) 23 [some (.ref b), some (.ref h1), some (.ref h2), some (.ref h3), some (.int 0), none, none] []) : bW X 7 (0, 0) [] 0 [some (.ref b), none, none, none, none, none, none] [] := by
  refine b_new hX cok_RL_8 ⟨by decide, by decide⟩ dL_law_0 (fun h1 => ?_)
  refine b_eq [(h1, .inr (8, [.null, .null, .null, .null, .null, .null, .null, .null, .null, .null, .null, .int 0, .int 0, .int 0]))] rfl ?_
  refine b_dup hX dL_law_3 rfl ?_
  refine b_call true [] [0] [] [] hX (mSpl (sl X) h1) rfl rfl (by decide) (by decide) (by decide) mk_RL_97 ⟨rfl, dL_law_4⟩ rfl (by decide) (Nat.le_of_ble_eq_true rfl) ⟨Nat.le_of_ble_eq_true rfl, Nat.le_of_ble_eq_true rfl⟩ rfl (fun u hu => ?_)
  obtain ⟨k1, rfl⟩ := hu
  refine b_eq (wSpl (scA X) h1 k1) rfl ?_
  refine b_astore_n hX dL_law_7 (by decide) ?_
  refine b_new hX cok_RL_98 ⟨by decide, by decide⟩ dL_law_8 (fun h2 => ?_)
  refine b_dup hX dL_law_11 rfl ?_
  refine b_call true [] [123] [0, 1, 2, 3, 4, 5, 6, 7, 8, 9, 10, 11, 12, 13, 14, 15, 16, 17, 18, 19, 20, 21, 22, 23, 24, 25, 26, 27, 28, 29, 30, 31, 32, 33, 34, 35, 36, 37, 38, 39, 40, 41, 42, 43, 44, 45, 46, 47, 48, 49, 50, 51, 52, 53, 54, 55, 56, 57, 58, 59, 60, 61, 62, 63, 64, 65, 66, 67, 68, 69, 70, 71, 72, 73, 74, 75, 76, 77, 78, 79, 80, 81, 82, 83, 84, 85, 86, 87, 88, 89, 90, 91, 92, 93, 94, 95, 96, 97, 98, 99, 100, 101, 102, 103, 104, 105, 106, 107, 108, 109, 110, 111, 112, 113, 114, 115, 116, 117, 118, 119, 120, 121, 122] (wSpl (scA X) h1 k1) hX (mMod (sl X) h2) rfl rfl (by decide) (by decide +kernel) (by decide +kernel) mk_RL_100 ⟨rfl, dL_law_12⟩ rfl (by decide) (Nat.le_of_ble_eq_true rfl) ⟨Nat.le_of_ble_eq_true rfl, Nat.le_of_ble_eq_true rfl⟩ rfl (fun u hu => ?_)
  obtain ⟨k2, rfl⟩ := hu
  refine b_astore_n hX dL_law_15 (by decide) ?_
  refine b_iconst 1 hX dL_law_16 (by decide) ?_
  refine b_newL 1 hX (by decide) (by decide) (by decide) ⟨Nat.le_of_ble_eq_true rfl, Nat.le_of_ble_eq_true rfl⟩ dL_law_17 (fun h3 => ?_)
  refine b_astore_n hX dL_law_19 (by decide) ?_
  refine b_iconst 0 hX dL_law_20 (by decide) ?_
  refine b_istore hX dL_law_21 (by decide) ?_
  exact kk h1 h2 h3 k1 k2 _ ⟨Nat.le_of_ble_eq_true rfl, Nat.le_of_ble_eq_true rfl⟩
