theorem dJ0_length_8abf5_0 : decode cJ0_length_8abf5 0 = .ok (.aload_n 0, 1) := by decide +kernel
theorem dJ0_length_8abf5_1 : decode cJ0_length_8abf5 1 = .ok (.getfield 9, 3) := by decide +kernel
theorem dJ0_length_8abf5_4 : decode cJ0_length_8abf5 4 = .ok (.arraylength, 1) := by decide +kernel
theorem dJ0_length_8abf5_5 : decode cJ0_length_8abf5 5 = .ok (.aload_n 0, 1) := by decide +kernel
theorem dJ0_length_8abf5_6 : decode cJ0_length_8abf5 6 = .ok (.invokevirtual 335, 3) := by decide +kernel
theorem dJ0_length_8abf5_9 : decode cJ0_length_8abf5 9 = .ok (.ishr, 1) := by decide +kernel
theorem dJ0_length_8abf5_10 : decode cJ0_length_8abf5 10 = .ok (.ireturn, 1) := by decide +kernel
theorem dJ0_coder_7d493_0 : decode cJ0_coder_7d493 0 = .ok (.getstatic 38, 3) := by decide +kernel
theorem dJ0_coder_7d493_3 : decode cJ0_coder_7d493 3 = .ok (.ifCond .eq 10, 3) := by decide +kernel
theorem dJ0_coder_7d493_6 : decode cJ0_coder_7d493 6 = .ok (.aload_n 0, 1) := by decide +kernel
theorem dJ0_coder_7d493_7 : decode cJ0_coder_7d493 7 = .ok (.getfield 15, 3) := by decide +kernel
theorem dJ0_coder_7d493_10 : decode cJ0_coder_7d493 10 = .ok (.goto 4, 3) := by decide +kernel
theorem dJ0_coder_7d493_13 : decode cJ0_coder_7d493 13 = .ok (.iconst 1, 1) := by decide +kernel
theorem dJ0_coder_7d493_14 : decode cJ0_coder_7d493 14 = .ok (.ireturn, 1) := by decide +kernel
theorem dJ0_charAt_5068e_0 : decode cJ0_charAt_5068e 0 = .ok (.aload_n 0, 1) := by decide +kernel
theorem dJ0_charAt_5068e_1 : decode cJ0_charAt_5068e 1 = .ok (.invokevirtual 492, 3) := by decide +kernel
theorem dJ0_charAt_5068e_4 : decode cJ0_charAt_5068e 4 = .ok (.ifCond .eq 12, 3) := by decide +kernel
theorem dJ0_charAt_5068e_7 : decode cJ0_charAt_5068e 7 = .ok (.aload_n 0, 1) := by decide +kernel
theorem dJ0_charAt_5068e_8 : decode cJ0_charAt_5068e 8 = .ok (.getfield 9, 3) := by decide +kernel
theorem dJ0_charAt_5068e_11 : decode cJ0_charAt_5068e 11 = .ok (.iload_n 1, 1) := by decide +kernel
theorem dJ0_charAt_5068e_12 : decode cJ0_charAt_5068e 12 = .ok (.invokestatic 495, 3) := by decide +kernel
theorem dJ0_charAt_5068e_15 : decode cJ0_charAt_5068e 15 = .ok (.ireturn, 1) := by decide +kernel
theorem dJ0_charAt_5068e_16 : decode cJ0_charAt_5068e 16 = .ok (.aload_n 0, 1) := by decide +kernel
theorem dJ0_charAt_5068e_17 : decode cJ0_charAt_5068e 17 = .ok (.getfield 9, 3) := by decide +kernel
theorem dJ0_charAt_5068e_20 : decode cJ0_charAt_5068e 20 = .ok (.iload_n 1, 1) := by decide +kernel
theorem dJ0_charAt_5068e_21 : decode cJ0_charAt_5068e 21 = .ok (.invokestatic 498, 3) := by decide +kernel
theorem dJ0_charAt_5068e_24 : decode cJ0_charAt_5068e 24 = .ok (.ireturn, 1) := by decide +kernel
theorem dJ0_isLatin1_aae02_0 : decode cJ0_isLatin1_aae02 0 = .ok (.getstatic 38, 3) := by decide +kernel
theorem dJ0_isLatin1_aae02_3 : decode cJ0_isLatin1_aae02 3 = .ok (.ifCond .eq 14, 3) := by decide +kernel
theorem dJ0_isLatin1_aae02_6 : decode cJ0_isLatin1_aae02 6 = .ok (.aload_n 0, 1) := by decide +kernel
theorem dJ0_isLatin1_aae02_7 : decode cJ0_isLatin1_aae02 7 = .ok (.getfield 15, 3) := by decide +kernel
theorem dJ0_isLatin1_aae02_10 : decode cJ0_isLatin1_aae02 10 = .ok (.ifCond .ne 7, 3) := by decide +kernel
theorem dJ0_isLatin1_aae02_13 : decode cJ0_isLatin1_aae02 13 = .ok (.iconst 1, 1) := by decide +kernel
theorem dJ0_isLatin1_aae02_14 : decode cJ0_isLatin1_aae02 14 = .ok (.goto 4, 3) := by decide +kernel
theorem dJ0_isLatin1_aae02_17 : decode cJ0_isLatin1_aae02 17 = .ok (.iconst 0, 1) := by decide +kernel
theorem dJ0_isLatin1_aae02_18 : decode cJ0_isLatin1_aae02 18 = .ok (.ireturn, 1) := by decide +kernel
theorem dJ1_charAt_3b067_0 : decode cJ1_charAt_3b067 0 = .ok (.iload_n 1, 1) := by decide +kernel
theorem dJ1_charAt_3b067_1 : decode cJ1_charAt_3b067 1 = .ok (.aload_n 0, 1) := by decide +kernel
theorem dJ1_charAt_3b067_2 : decode cJ1_charAt_3b067 2 = .ok (.arraylength, 1) := by decide +kernel
theorem dJ1_charAt_3b067_3 : decode cJ1_charAt_3b067 3 = .ok (.invokestatic 9, 3) := by decide +kernel
theorem dJ1_charAt_3b067_6 : decode cJ1_charAt_3b067 6 = .ok (.aload_n 0, 1) := by decide +kernel
theorem dJ1_charAt_3b067_7 : decode cJ1_charAt_3b067 7 = .ok (.iload_n 1, 1) := by decide +kernel
theorem dJ1_charAt_3b067_8 : decode cJ1_charAt_3b067 8 = .ok (.baload, 1) := by decide +kernel
theorem dJ1_charAt_3b067_9 : decode cJ1_charAt_3b067 9 = .ok (.sipush 255, 3) := by decide +kernel
theorem dJ1_charAt_3b067_12 : decode cJ1_charAt_3b067 12 = .ok (.iand, 1) := by decide +kernel
theorem dJ1_charAt_3b067_13 : decode cJ1_charAt_3b067 13 = .ok (.i2c, 1) := by decide +kernel
theorem dJ1_charAt_3b067_14 : decode cJ1_charAt_3b067 14 = .ok (.ireturn, 1) := by decide +kernel
theorem dJ0_checkIndex_df160_0 : decode cJ0_checkIndex_df160 0 = .ok (.iload_n 0, 1) := by decide +kernel
theorem dJ0_checkIndex_df160_1 : decode cJ0_checkIndex_df160 1 = .ok (.iload_n 1, 1) := by decide +kernel
theorem dJ0_checkIndex_df160_2 : decode cJ0_checkIndex_df160 2 = .ok (.getstatic 1053, 3) := by decide +kernel
theorem dJ0_checkIndex_df160_5 : decode cJ0_checkIndex_df160 5 = .ok (.invokestatic 1059, 3) := by decide +kernel
theorem dJ0_checkIndex_df160_8 : decode cJ0_checkIndex_df160 8 = .ok (.pop, 1) := by decide +kernel
theorem dJ0_checkIndex_df160_9 : decode cJ0_checkIndex_df160 9 = .ok (.return_, 1) := by decide +kernel
theorem dJ3_checkIndex_8e157_0 : decode cJ3_checkIndex_8e157 0 = .ok (.iload_n 0, 1) := by decide +kernel
theorem dJ3_checkIndex_8e157_1 : decode cJ3_checkIndex_8e157 1 = .ok (.ifCond .lt 8, 3) := by decide +kernel
theorem dJ3_checkIndex_8e157_4 : decode cJ3_checkIndex_8e157 4 = .ok (.iload_n 0, 1) := by decide +kernel
theorem dJ3_checkIndex_8e157_5 : decode cJ3_checkIndex_8e157 5 = .ok (.iload_n 1, 1) := by decide +kernel
theorem dJ3_checkIndex_8e157_6 : decode cJ3_checkIndex_8e157 6 = .ok (.if_icmp .lt 10, 3) := by decide +kernel
theorem dJ3_checkIndex_8e157_9 : decode cJ3_checkIndex_8e157 9 = .ok (.aload_n 2, 1) := by decide +kernel
theorem dJ3_checkIndex_8e157_10 : decode cJ3_checkIndex_8e157 10 = .ok (.iload_n 0, 1) := by decide +kernel
theorem dJ3_checkIndex_8e157_11 : decode cJ3_checkIndex_8e157 11 = .ok (.iload_n 1, 1) := by decide +kernel
theorem dJ3_checkIndex_8e157_12 : decode cJ3_checkIndex_8e157 12 = .ok (.invokestatic 95, 3) := by decide +kernel
theorem dJ3_checkIndex_8e157_15 : decode cJ3_checkIndex_8e157 15 = .ok (.athrow, 1) := by decide +kernel
theorem dJ3_checkIndex_8e157_16 : decode cJ3_checkIndex_8e157 16 = .ok (.iload_n 0, 1) := by decide +kernel
theorem dJ3_checkIndex_8e157_17 : decode cJ3_checkIndex_8e157 17 = .ok (.ireturn, 1) := by decide +kernel
/-! the three texts of the reader: the JDK's own String methods on them -/
theorem s_strV {X : sT} {cc : ByteArray} {own : String} {nL fr lo : Nat} {cs : Nat × Nat} {σ : Mm} {pc : Nat} {L : List (Option Value)} {st : List Value} {i index : Nat} (h : sX X cc own nL fr lo) (hi : i < 3) (hw : Cond.fieldLink own index "java/lang/String" "value" "[B" ∈ GW) (d : decode cc pc = .ok (.getfield index, 3)) (kk : sW X nL cs σ (pc + 3) L (.ref (sad X (1010 + i)) :: st)) : sW X nL cs σ pc L (.ref (sad X (1000 + i)) :: st) := by
  obtain ⟨p, l, e, R, s, m, args, below, meth, c, D, cA, ad, A, Q⟩ := X
  obtain ⟨⟨hx, hb, hml, hown, hts⟩, hfr, hlo, ⟨hK, hij, hAd, hst⟩, hxt, hnew, hlk⟩ := h
  intro H locs ls hP hS hl
  exact vk_getf hx hb (hxt.2.2.1.1 i hi).2.2.1 hS hown (hts _ hw) (fun _ h => h) d (kk H locs ls hP hS hl)
theorem s_strC {X : sT} {cc : ByteArray} {own : String} {nL fr lo : Nat} {cs : Nat × Nat} {σ : Mm} {pc : Nat} {L : List (Option Value)} {st : List Value} {i index : Nat} (h : sX X cc own nL fr lo) (hi : i < 3) (hw : Cond.fieldLink own index "java/lang/String" "coder" "B" ∈ GW) (d : decode cc pc = .ok (.getfield index, 3)) (kk : sW X nL cs σ (pc + 3) L (.int 0 :: st)) : sW X nL cs σ pc L (.ref (sad X (1000 + i)) :: st) := by
  obtain ⟨p, l, e, R, s, m, args, below, meth, c, D, cA, ad, A, Q⟩ := X
  obtain ⟨⟨hx, hb, hml, hown, hts⟩, hfr, hlo, ⟨hK, hij, hAd, hst⟩, hxt, hnew, hlk⟩ := h
  intro H locs ls hP hS hl
  exact vk_getf hx hb (hxt.2.2.1.1 i hi).2.1 hS hown (hts _ hw) (fun _ h => h) d (kk H locs ls hP hS hl)
theorem s_strL {X : sT} {cc : ByteArray} {own : String} {nL fr lo : Nat} {cs : Nat × Nat} {σ : Mm} {pc : Nat} {L : List (Option Value)} {st : List Value} {i : Nat} (h : sX X cc own nL fr lo) (hi : i < 3) (d : decode cc pc = .ok (.arraylength, 1)) (kk : sW X nL cs σ (pc + 1) L (.int (Int32.ofNat (sLEN.getD i 0)) :: st)) : sW X nL cs σ pc L (.ref (sad X (1010 + i)) :: st) := by
  obtain ⟨p, l, e, R, s, m, args, below, meth, c, D, cA, ad, A, Q⟩ := X
  obtain ⟨⟨hx, hb, hml, hown, hts⟩, hfr, hlo, ⟨hK, hij, hAd, hst⟩, hxt, hnew, hlk⟩ := h
  intro H locs ls hP hS hl
  exact va_tlen hx hb (hxt.2.2.1.1 i hi).2.2.2 hS rfl d (kk H locs ls hP hS hl)
theorem s_strB {X : sT} {cc : ByteArray} {own : String} {nL fr lo : Nat} {cs : Nat × Nat} {σ : Mm} {pc : Nat} {L : List (Option Value)} {st : List Value} {i : Nat} {j : Int32} (h : sX X cc own nL fr lo) (hi : i < 3) (hj : vp_in j (sLEN.getD i 0)) (d : decode cc pc = .ok (.baload, 1)) (kk : sW X nL cs σ (pc + 1) L (.int ((sBYT.getD i []).getD j.toNatClampNeg 0) :: st)) : sW X nL cs σ pc L (.int j :: .ref (sad X (1010 + i)) :: st) := by
  obtain ⟨p, l, e, R, s, m, args, below, meth, c, D, cA, ad, A, Q⟩ := X
  obtain ⟨⟨hx, hb, hml, hown, hts⟩, hfr, hlo, ⟨hK, hij, hAd, hst⟩, hxt, hnew, hlk⟩ := h
  intro H locs ls hP hS hl
  exact va_tb hx hb (hxt.2.2.1.1 i hi).2.2.2 hS hj rfl d (kk H locs ls hP hS hl)
theorem s_gsC {X : sT} {cc : ByteArray} {own : String} {nL fr lo : Nat} {cs : Nat × Nat} {σ : Mm} {pc : Nat} {L : List (Option Value)} {st : List Value} {index : Nat} (h : sX X cc own nL fr lo) (hw : Cond.fieldLink own index "java/lang/String" "COMPACT_STRINGS" "Z" ∈ GW) (d : decode cc pc = .ok (.getstatic index, 3)) (kk : sW X nL cs σ (pc + 3) L (.int 1 :: st)) : sW X nL cs σ pc L (st) := by
  obtain ⟨p, l, e, R, s, m, args, below, meth, c, D, cA, ad, A, Q⟩ := X
  obtain ⟨⟨hx, hb, hml, hown, hts⟩, hfr, hlo, ⟨hK, hij, hAd, hst⟩, hxt, hnew, hlk⟩ := h
  intro H locs ls hP hS hl
  exact va_gets hx hb hxt.2.2.2.1 hS hown (hts _ hw) (fun _ h => h) d (kk H locs ls hP hS hl)
theorem s_gsF {X : sT} {cc : ByteArray} {own : String} {nL fr lo : Nat} {cs : Nat × Nat} {σ : Mm} {pc : Nat} {L : List (Option Value)} {st : List Value} {index : Nat} (h : sX X cc own nL fr lo) (hw : Cond.fieldLink own index "jdk/internal/util/Preconditions" "SIOOBE_FORMATTER" "Ljava/util/function/BiFunction;" ∈ GW) (d : decode cc pc = .ok (.getstatic index, 3)) (kk : ∀ v : Value, v.category = 1 → sW X nL cs σ (pc + 3) L (v :: st)) : sW X nL cs σ pc L st := by
  obtain ⟨p, l, e, R, s, m, args, below, meth, c, D, cA, ad, A, Q⟩ := X
  obtain ⟨⟨hx, hb, hml, hown, hts⟩, hfr, hlo, ⟨hK, hij, hAd, hst⟩, hxt, hnew, hlk⟩ := h
  intro H locs ls hP hS hl
  rcases hxt.2.2.2.2 with hz | ⟨t, hz⟩
  · exact va_gets hx hb hz hS hown (hts _ hw) (fun _ h => h) d (kk .null rfl H locs ls hP hS hl)
  · exact va_gets hx hb hz hS hown (hts _ hw) (fun _ h => h) d (kk (.ref t) rfl H locs ls hP hS hl)
theorem s_ldcS {X : sT} {cc : ByteArray} {own : String} {nL fr lo : Nat} {cs : Nat × Nat} {σ : Mm} {pc : Nat} {L : List (Option Value)} {st : List Value} {i : Nat} {index : Nat} (h : sX X cc own nL fr lo) (hi : i < 3) (ho : own = RX8) (hx8 : (sTXT.getD i (0, "")).1 = index) (d : decode cc pc = .ok (.ldc index, 2)) (kk : sW X nL cs σ (pc + 2) L (.ref (sad X (1000 + i)) :: st)) : sW X nL cs σ pc L st := by
  obtain ⟨p, l, e, R, s, m, args, below, meth, c, D, cA, ad, A, Q⟩ := X
  obtain ⟨⟨hx, hb, hml, hown, hts⟩, hfr, hlo, ⟨hK, hij, hAd, hst⟩, hxt, hnew, hlk⟩ := h
  intro H locs ls hP hS hl
  subst ho
  have hz := hst.2.2 i hi
  rw [hx8] at hz
  exact va_ldcS hx hb hown hz d (kk H locs ls hP hS hl)
theorem s_callStr {X : sT} {cc : ByteArray} {own : String} {nL fr lo : Nat} {cs : Nat × Nat} {σ : Mm} {pc : Nat} {L : List (Option Value)} {st : List Value} {y : MethodName} {cc' : ByteArray} {nL' fr' lo' index n i : Nat} {rt : FieldType} {r : Int32} {σ' : Mm} {s0 : List Value} (av0 : (Nat → Nat) → List Value) (h : sX X cc own nL fr lo) (hi : i < 3) (hC : cI (sl X) y cc' nL' rt fr' lo' (fun ad => .ref (ad (1000 + i)) :: av0 ad) σ r σ') (hw : Cond.code y cc' nL' (some rt) ∈ GW ∧ Cond.initialized y.cls ∈ GW ∧ Cond.instanceMethod y ∈ GW ∧ Cond.methodLink own index y ∈ GW ∧ Cond.selects "java/lang/String" y y ∈ GW ∧ y.cls ≠ "java/lang/invoke/MethodHandle" ∧ y.cls ≠ "java/lang/invoke/VarHandle" ∧ (parseMethodDescriptor y.desc).map (fun d => d.parameters.length) = some n) (hn : ∀ ad, (av0 ad).length = n) (hrm : fr' + 1 ≤ fr ∧ 8 + (nL' + 11) + lo' ≤ lo) (hst : (st.map fun v => v.category).sum ≤ 8) (hcs : cs.1 ≤ (sR X).cells ∧ cs.2 ≤ (sR X).slots) (d : decode cc pc = .ok (.invokevirtual index, 3)) (hs0 : s0 = (av0 (sad X)).reverse ++ .ref (sad X (1000 + i)) :: st) (kk : sW X nL cs σ' (pc + 3) L (.int r :: st)) : sW X nL cs σ pc L s0 := by
  obtain ⟨p, l, e, R, s, m, args, below, meth, c, D, cA, ad, A, Q⟩ := X
  obtain ⟨⟨hx, hb, hml, hown, hts⟩, hfr, hlo, hI, hxt, hnew, hlk⟩ := h
  intro H locs ls hP hS hl
  subst hs0
  obtain ⟨w1, w2, w3, w5, w6, w7, w8, w9⟩ := hw
  have hR : (rmF fr' lo').frames + 1 ≤ R.frames ∧ 8 + (nL' + 11) + (rmF fr' lo').locals ≤ R.locals := ⟨Nat.le_trans hrm.1 hfr, Nat.le_trans hrm.2 hlo⟩
  have hM := hC D cA ad A
  have hpre : PreV s H "java/lang/String" (ad (1000 + i)) (va_Pc (.ref (ad (1000 + i)) :: av0 ad) (wrld D cA ad A σ)) (av0 ad) := ⟨wrld.blind _, vk_recv (adK := fun i => ad (1000 + i)) (i := i) hxt.2.2.1 hi hS, fun U hU hW => ⟨rfl, wr_of hI hxt hnew hP hS hU hW⟩⟩
  have hrun : va_Run p l e R s m args below meth c H locs cs.1 cs.2 0 0 (F0 m pc ls ((av0 ad).reverse ++ .ref (ad (1000 + i)) :: st)) st (va_Qi (fun x (_ : Unit) => x = r) (fun _ t => wrld D cA ad A σ' t) A (Value.ref (ad (1000 + i)) :: av0 ad).toArray) A := va_runV (As := av0 ad) (rest := st) ⟨hx, hb, hml, hown, hts⟩ hM ⟨callB_of n hts (gw_cons w1) rfl rfl rfl (hts _ w2) (hts _ w5) ⟨w7, w8, w9⟩ hR, hts _ w3, hts _ w6⟩ hpre rfl (hn ad) hl.1.1 rfl (lv_room hst) d hcs
  refine va_calli hrun hS (fun q _ h => h) (fun q h => h) (fun r1 u t H1 locs1 ht hvm hw hB hz1 hk1 hS1 => ?_)
  subst hw
  exact kk H1 locs1 ls (by rw [← ht]; exact hB.1) hS1 hl
theorem cJ0_coder_ok (l : Launch) {σ : Mm} {i : Nat} (hi : i < 3) : cI l yJ0_coder_7d493 cJ0_coder_7d493 1 .byte 0 0 (fun ad => [.ref (ad (1000 + i))]) σ 0 σ := by
  refine c_enterI (fun ad => [some (.ref (ad (1000 + i)))]) (by decide) (fun ad => ⟨by simp [Value.category], Nat.le_of_ble_eq_true rfl⟩) (fun ad => ⟨0, rfl⟩) ?_
  intro X _ hX hret
  have hcs : ((0 : Nat), (0 : Nat)).1 ≤ (sR X).cells ∧ ((0 : Nat), (0 : Nat)).2 ≤ (sR X).slots := ⟨Nat.zero_le _, Nat.zero_le _⟩
  refine s_gsC hX w6_28 dJ0_coder_7d493_0 ?_
  refine s_if_eq (tgt := 13) hX dJ0_coder_7d493_3 (by decide) (fun c1 => absurd c1 (by decide)) (fun c1 => ?_)
  refine s_aload_n hX dJ0_coder_7d493_6 rfl ?_
  refine s_strC hX hi w8_208 dJ0_coder_7d493_7 ?_
  refine s_goto (tgt := 14) hX dJ0_coder_7d493_10 (by decide) ?_
  exact hret _ _ rfl dJ0_coder_7d493_14
theorem cJ0_isLatin1_ok (l : Launch) {σ : Mm} {i : Nat} (hi : i < 3) : cI l yJ0_isLatin1_aae02 cJ0_isLatin1_aae02 1 .boolean 0 0 (fun ad => [.ref (ad (1000 + i))]) σ 1 σ := by
  refine c_enterI (fun ad => [some (.ref (ad (1000 + i)))]) (by decide) (fun ad => ⟨by simp [Value.category], Nat.le_of_ble_eq_true rfl⟩) (fun ad => ⟨0, rfl⟩) ?_
  intro X _ hX hret
  have hcs : ((0 : Nat), (0 : Nat)).1 ≤ (sR X).cells ∧ ((0 : Nat), (0 : Nat)).2 ≤ (sR X).slots := ⟨Nat.zero_le _, Nat.zero_le _⟩
  refine s_gsC hX w6_28 dJ0_isLatin1_aae02_0 ?_
  refine s_if_eq (tgt := 17) hX dJ0_isLatin1_aae02_3 (by decide) (fun c1 => absurd c1 (by decide)) (fun c1 => ?_)
  refine s_aload_n hX dJ0_isLatin1_aae02_6 rfl ?_
  refine s_strC hX hi w8_208 dJ0_isLatin1_aae02_7 ?_
  refine s_if_ne (tgt := 17) hX dJ0_isLatin1_aae02_10 (by decide) (fun c1 => absurd rfl c1) (fun c1 => ?_)
  refine s_iconst 1 hX dJ0_isLatin1_aae02_13 (by decide) ?_
  refine s_goto (tgt := 18) hX dJ0_isLatin1_aae02_14 (by decide) ?_
  exact hret _ _ rfl dJ0_isLatin1_aae02_18
theorem len_shr : ∀ i, i < 3 → Int32.ofNat (sLEN.getD i 0) >>> ((0 : Int32) &&& 31) = Int32.ofNat (sLEN.getD i 0) := by decide +kernel
theorem cJ0_length_ok (l : Launch) {σ : Mm} {i : Nat} (hi : i < 3) : cI l yJ0_length_8abf5 cJ0_length_8abf5 1 .int 1 20 (fun ad => [.ref (ad (1000 + i))]) σ (Int32.ofNat (sLEN.getD i 0)) σ := by
  refine c_enterI (fun ad => [some (.ref (ad (1000 + i)))]) (by decide) (fun ad => ⟨by simp [Value.category], Nat.le_of_ble_eq_true rfl⟩) (fun ad => ⟨0, rfl⟩) ?_
  intro X _ hX hret
  have hcs : ((0 : Nat), (0 : Nat)).1 ≤ (sR X).cells ∧ ((0 : Nat), (0 : Nat)).2 ≤ (sR X).slots := ⟨Nat.zero_le _, Nat.zero_le _⟩
  refine s_aload_n hX dJ0_length_8abf5_0 rfl ?_
  refine s_strV hX hi w8_207 dJ0_length_8abf5_1 ?_
  refine s_strL hX hi dJ0_length_8abf5_4 ?_
  refine s_aload_n hX dJ0_length_8abf5_5 rfl ?_
  refine s_callStr (fun _ => []) hX hi (cJ0_coder_ok (sl X) hi) ⟨w6_27, w1_19, w6_25, w6_24, w6_26, by decide +kernel, by decide +kernel, by decide +kernel⟩ (fun _ => rfl) (by decide) (Nat.le_of_ble_eq_true rfl) hcs dJ0_length_8abf5_6 rfl ?_
  refine s_ishr hX dJ0_length_8abf5_9 ?_
  refine s_topi (Int32.ofNat (sLEN.getD i 0)) (len_shr i hi).symm ?_
  exact hret _ _ rfl dJ0_length_8abf5_10
theorem cJ3_checkIndex_ok (l : Launch) {σ : Mm} {a n : Int32} {v : Value} (hv : v.category = 1) (h0 : ¬ a < 0) (h1 : a < n) : cI l yJ3_checkIndex_8e157 cJ3_checkIndex_8e157 3 .int 0 0 (fun _ => [.int a, .int n, v]) σ a σ := by
  refine c_enterI (fun ad => [some (.int a), some (.int n), some v]) (by decide) (fun ad => ⟨by
    intro w hw
    simp only [List.mem_cons, List.not_mem_nil, or_false] at hw
    rcases hw with rfl | rfl | rfl
    · rfl
    · rfl
    · exact hv, by cases v <;> first | exact Nat.le_of_ble_eq_true rfl | (simp [Value.category] at hv)⟩) (fun ad => ⟨0, rfl⟩) ?_
  intro X _ hX hret
  refine s_iload_n hX dJ3_checkIndex_8e157_0 rfl ?_
  refine s_if_lt (tgt := 9) hX dJ3_checkIndex_8e157_1 (by decide) (fun c1 => absurd c1 h0) (fun c1 => ?_)
  refine s_iload_n hX dJ3_checkIndex_8e157_4 rfl ?_
  refine s_iload_n hX dJ3_checkIndex_8e157_5 rfl ?_
  refine s_ic_lt (tgt := 16) hX dJ3_checkIndex_8e157_6 (by decide) (fun c1 => ?_) (fun c1 => absurd h1 c1)
  refine s_iload_n hX dJ3_checkIndex_8e157_16 rfl ?_
  exact hret _ _ rfl dJ3_checkIndex_8e157_17
theorem ms_str1 : mS RJ0 1059 yJ3_checkIndex_8e157 cJ3_checkIndex_8e157 3 (some .int) 3 := ⟨w6_48, w1_28, Or.inl w6_46, w6_47, by decide +kernel, by decide +kernel, by decide +kernel⟩
theorem cJ0_checkIndex_ok (l : Launch) {σ : Mm} {a n : Int32} (h0 : ¬ a < 0) (h1 : a < n) : cV l yJ0_checkIndex_df160 cJ0_checkIndex_df160 2 1 30 (fun _ => [.int a, .int n]) σ σ := by
  refine c_enterV (fun ad => [some (.int a), some (.int n)]) (by decide) (fun ad => ⟨by simp [Value.category], Nat.le_of_ble_eq_true rfl⟩) (fun ad => ⟨0, rfl⟩) ?_
  intro X _ hX hret
  have hcs : ((0 : Nat), (0 : Nat)).1 ≤ (sR X).cells ∧ ((0 : Nat), (0 : Nat)).2 ≤ (sR X).slots := ⟨Nat.zero_le _, Nat.zero_le _⟩
  refine s_iload_n hX dJ0_checkIndex_df160_0 rfl ?_
  refine s_iload_n hX dJ0_checkIndex_df160_1 rfl ?_
  refine s_gsF hX w6_44 dJ0_checkIndex_df160_2 (fun v hv => ?_)
  refine s_callSI _ hX (cJ3_checkIndex_ok (sl X) hv h0 h1) ms_str1 (fun _ => rfl) (by decide) (Nat.le_of_ble_eq_true rfl) hcs dJ0_checkIndex_df160_5 rfl ?_
  refine s_pop hX dJ0_checkIndex_df160_8 rfl ?_
  exact hret _ _ dJ0_checkIndex_df160_9
theorem ms_str2 : mS RJ1 9 yJ0_checkIndex_df160 cJ0_checkIndex_df160 2 none 2 := ⟨w6_43, w1_19, Or.inl w6_41, w6_42, by decide +kernel, by decide +kernel, by decide +kernel⟩
theorem ms_str3 : mS RJ0 495 yJ1_charAt_3b067 cJ1_charAt_3b067 2 (some .char) 2 := ⟨w6_40, w1_27, Or.inl w6_38, w6_39, by decide +kernel, by decide +kernel, by decide +kernel⟩
/-- the char at a place of a text -/
def schr (i j : Nat) : Int32 := (sBYT.getD i []).getD j 0
theorem schr_ok : ∀ i, i < 3 → ∀ j, j < 5 → (((((sBYT.getD i []).getD j 0) &&& 255).toUInt32 % 65536).toInt32 = schr i j ∧ nrc (schr i j) = schr i j) := by decide +kernel
theorem slen_5 : ∀ i, i < 3 → sLEN.getD i 0 ≤ 5 := by decide +kernel
theorem slen_lt {i : Nat} {j : Int32} (hi : i < 3) (hj : vp_in j (sLEN.getD i 0)) : ¬ j < 0 ∧ j < Int32.ofNat (sLEN.getD i 0) ∧ j.toNatClampNeg < 5 := by
  have h5 := slen_5 i hi
  obtain ⟨k, hk, rfl⟩ := vp_in_of hj (by omega)
  have hc : (nI k).toNatClampNeg = k := nI_clamp (by omega)
  exact ⟨nI_pos (by omega), nI_lt hk (by omega), by omega⟩
theorem cJ1_charAt_ok (l : Launch) {σ : Mm} {i : Nat} {j : Int32} (hi : i < 3) (hj : vp_in j (sLEN.getD i 0)) : cI l yJ1_charAt_3b067 cJ1_charAt_3b067 2 .char 2 60 (fun ad => [.ref (ad (1010 + i)), .int j]) σ (schr i j.toNatClampNeg) σ := by
  refine c_enterI (fun ad => [some (.ref (ad (1010 + i))), some (.int j)]) (by decide) (fun ad => ⟨by simp [Value.category], Nat.le_of_ble_eq_true rfl⟩) (fun ad => ⟨0, rfl⟩) ?_
  intro X _ hX hret
  have hcs : ((0 : Nat), (0 : Nat)).1 ≤ (sR X).cells ∧ ((0 : Nat), (0 : Nat)).2 ≤ (sR X).slots := ⟨Nat.zero_le _, Nat.zero_le _⟩
  obtain ⟨q0, q1, q2⟩ := slen_lt hi hj
  obtain ⟨e1, e2⟩ := schr_ok i hi _ q2
  refine s_iload_n hX dJ1_charAt_3b067_0 rfl ?_
  refine s_aload_n hX dJ1_charAt_3b067_1 rfl ?_
  refine s_strL hX hi dJ1_charAt_3b067_2 ?_
  refine s_callSV _ hX (cJ0_checkIndex_ok (sl X) q0 q1) ms_str2 (fun _ => rfl) (by decide) (Nat.le_of_ble_eq_true rfl) hcs dJ1_charAt_3b067_3 rfl ?_
  refine s_aload_n hX dJ1_charAt_3b067_6 rfl ?_
  refine s_iload_n hX dJ1_charAt_3b067_7 rfl ?_
  refine s_strB hX hi hj dJ1_charAt_3b067_8 ?_
  refine s_sipush 255 hX dJ1_charAt_3b067_9 (by decide) ?_
  refine s_iand hX dJ1_charAt_3b067_12 ?_
  refine s_i2c hX dJ1_charAt_3b067_13 ?_
  refine s_topi (schr i j.toNatClampNeg) e1.symm ?_
  exact hret _ _ (gc_n e2) dJ1_charAt_3b067_14
theorem cJ0_charAt_ok (l : Launch) {σ : Mm} {i : Nat} {j : Int32} (hi : i < 3) (hj : vp_in j (sLEN.getD i 0)) : cI l yJ0_charAt_5068e cJ0_charAt_5068e 2 .char 3 90 (fun ad => [.ref (ad (1000 + i)), .int j]) σ (schr i j.toNatClampNeg) σ := by
  refine c_enterI (fun ad => [some (.ref (ad (1000 + i))), some (.int j)]) (by decide) (fun ad => ⟨by simp [Value.category], Nat.le_of_ble_eq_true rfl⟩) (fun ad => ⟨0, rfl⟩) ?_
  intro X _ hX hret
  have hcs : ((0 : Nat), (0 : Nat)).1 ≤ (sR X).cells ∧ ((0 : Nat), (0 : Nat)).2 ≤ (sR X).slots := ⟨Nat.zero_le _, Nat.zero_le _⟩
  obtain ⟨e1, e2⟩ := schr_ok i hi _ (slen_lt hi hj).2.2
  refine s_aload_n hX dJ0_charAt_5068e_0 rfl ?_
  refine s_callStr (fun _ => []) hX hi (cJ0_isLatin1_ok (sl X) hi) ⟨w6_37, w1_19, w6_35, w6_34, w6_36, by decide +kernel, by decide +kernel, by decide +kernel⟩ (fun _ => rfl) (by decide) (Nat.le_of_ble_eq_true rfl) hcs dJ0_charAt_5068e_1 rfl ?_
  refine s_if_eq (tgt := 16) hX dJ0_charAt_5068e_4 (by decide) (fun c1 => absurd c1 (by decide)) (fun c1 => ?_)
  refine s_aload_n hX dJ0_charAt_5068e_7 rfl ?_
  refine s_strV hX hi w8_207 dJ0_charAt_5068e_8 ?_
  refine s_iload_n hX dJ0_charAt_5068e_11 rfl ?_
  refine s_callSI _ hX (cJ1_charAt_ok (sl X) hi hj) ms_str3 (fun _ => rfl) (by decide) (Nat.le_of_ble_eq_true rfl) hcs dJ0_charAt_5068e_12 rfl ?_
  exact hret _ _ (gc_n e2) dJ0_charAt_5068e_15
theorem mz_len : Cond.code yJ0_length_8abf5 cJ0_length_8abf5 1 (some .int) ∈ GW ∧ Cond.initialized yJ0_length_8abf5.cls ∈ GW ∧ Cond.instanceMethod yJ0_length_8abf5 ∈ GW ∧ Cond.methodLink RX8 97 yJ0_length_8abf5 ∈ GW ∧ Cond.selects "java/lang/String" yJ0_length_8abf5 yJ0_length_8abf5 ∈ GW ∧ yJ0_length_8abf5.cls ≠ "java/lang/invoke/MethodHandle" ∧ yJ0_length_8abf5.cls ≠ "java/lang/invoke/VarHandle" ∧ (parseMethodDescriptor yJ0_length_8abf5.desc).map (fun d => d.parameters.length) = some 0 := ⟨w6_23, w1_19, w6_21, w6_20, w6_22, by decide +kernel, by decide +kernel, by decide +kernel⟩
theorem mz_chr : Cond.code yJ0_charAt_5068e cJ0_charAt_5068e 2 (some .char) ∈ GW ∧ Cond.initialized yJ0_charAt_5068e.cls ∈ GW ∧ Cond.instanceMethod yJ0_charAt_5068e ∈ GW ∧ Cond.methodLink RX8 101 yJ0_charAt_5068e ∈ GW ∧ Cond.selects "java/lang/String" yJ0_charAt_5068e yJ0_charAt_5068e ∈ GW ∧ yJ0_charAt_5068e.cls ≠ "java/lang/invoke/MethodHandle" ∧ yJ0_charAt_5068e.cls ≠ "java/lang/invoke/VarHandle" ∧ (parseMethodDescriptor yJ0_charAt_5068e.desc).map (fun d => d.parameters.length) = some 1 := ⟨w6_33, w1_19, w6_31, w6_30, w6_32, by decide +kernel, by decide +kernel, by decide +kernel⟩
