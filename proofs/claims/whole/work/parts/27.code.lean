def fX10_readRow (σ : Mm) (l1 : Int32) : Option Mm :=
  bn2 (fX10_takes σ 61 61) fun r1 σ2 =>
  if (σ2 123 45) = 0 then
  gd (σ2 123 50) 8 <|
  bd (upm σ2 156 (upd (σ2 156) (σ2 123 50).toNatClampNeg l1)) fun σ4 =>
  (fX10_sign σ4).bind fun r5 =>
  jn (fun (σ6 : Mm) => bn2 (fX10_takes σ6 59 59) fun r8 σ9 =>
  bd (upm σ9 123 (upd (σ9 123) 50 ((σ9 123 50) + 1))) fun σ10 =>
  some σ10) fun j7 =>
  if r5 = 45 then
  bd (upm σ4 123 (upd (σ4 123) 44 ((σ4 123 44) + 1))) fun σ37 =>
  (fX10_readNumber σ37 1).bind fun σ38 =>
  j7 σ38
else
  (fX10_sign σ4).bind fun r11 =>
  (fX10_in σ4 r11 48 57).bind fun r12 =>
  if r12 = 0 then
  bn2 (fX10_variable σ4) fun r13 σ14 =>
  gd (σ4 123 50) 8 <|
  bd (upm σ14 157 (upd (σ14 157) (σ4 123 50).toNatClampNeg r13)) fun σ16 =>
  gd (σ16 123 50) 8 <|
  bd (upm σ16 155 (upd (σ16 155) (σ16 123 50).toNatClampNeg 1)) fun σ18 =>
  (fX10_sign σ18).bind fun r19 =>
  jn (fun (_u : Unit) => bd (upm σ18 123 (upd (σ18 123) 44 ((σ18 123 44) + 1))) fun σ21 =>
  jn (fun (v22 : Int32) => gd (σ21 123 50) 8 <|
  bd (upm σ21 155 (upd (σ21 155) (σ21 123 50).toNatClampNeg v22)) fun σ25 =>
  bn2 (fX10_variable σ25) fun r26 σ27 =>
  gd (σ25 123 50) 8 <|
  bd (upm σ27 158 (upd (σ27 158) (σ25 123 50).toNatClampNeg r26)) fun σ29 =>
  j7 σ29) fun j23 =>
  if r19 = 43 then
  j23 2
else
  if r19 = 45 then
  j23 3
else
  j23 4) fun j20 =>
  if r19 = 43 then
  j20 ()
else
  if r19 = 45 then
  j20 ()
else
  if r19 = 42 then
  j20 ()
else
  j7 σ18
else
  (fX10_readNumber σ4 0).bind fun σ35 =>
  j7 σ35
else
  some σ2
set_option maxHeartbeats 4000000 in
theorem cX10_readRow_ok (l : Launch) {σ : Mm} {l1 : Int32} {σ' : Mm}  (h : fX10_readRow σ l1 = some σ') : cV l yX10_readRow cX10_readRow 4 3 68 (fun ad => [.ref (ad 123), .int l1]) σ σ' := by
  refine c_enterV (fun ad => [some (.ref (ad 123)), some (.int l1), none, none]) (by decide) (fun ad => ⟨by simp [Value.category], Nat.le_of_ble_eq_true rfl⟩) (fun ad => ⟨2, rfl⟩) ?_
  intro X _ hX hret
  have hcs : ((0 : Nat), (0 : Nat)).1 ≤ (sR X).cells ∧ ((0 : Nat), (0 : Nat)).2 ≤ (sR X).slots := ⟨Nat.zero_le _, Nat.zero_le _⟩
  generalize hcs0 : ((0 : Nat), (0 : Nat)) = cs at hcs hret ⊢
  unfold fX10_readRow at h
  show sW X 4 cs σ 0 [some (.ref (sad X 123)), some (.int l1), none, none] []
  refine s_aload_n hX dX10_readRow_0 rfl ?_
  refine s_bipush 61 hX dX10_readRow_1 (by decide) ?_
  refine s_bipush 61 hX dX10_readRow_3 (by decide) ?_
  obtain ⟨r1, σ2, hc, h⟩ := bn2_some h
  refine s_callVI _ hX (cX10_takes_ok (sl X)  hc) SH_123 mv_RX10_380_9 (fun _ => rfl) (by decide) (Nat.le_of_ble_eq_true rfl) hcs dX10_readRow_5 rfl ?_
  refine s_istore_n hX dX10_readRow_8 (by decide) ?_
  refine s_aload_n hX dX10_readRow_9 rfl ?_
  refine s_getI hX fo_RX10_151_9 SH_123 rfl dX10_readRow_10 ?_
  refine s_if_eq (tgt := 17) hX dX10_readRow_13 (by decide) (fun c40 => ?_) (fun c40 => ?_)
  · replace h := (if_pos c40).symm.trans h
    refine s_aload_n hX dX10_readRow_17 rfl ?_
    refine s_getR (r := 156) hX fo_RX10_157_9 SH_123 rfl dX10_readRow_18 ?_
    refine s_aload_n hX dX10_readRow_21 rfl ?_
    refine s_getI hX fo_RX10_166_9 SH_123 rfl dX10_readRow_22 ?_
    refine s_iload_n hX dX10_readRow_25 rfl ?_
    obtain ⟨c3, h⟩ := gd_some h
    obtain ⟨σ4, eσ4, h⟩ := bd_some h
    refine s_iast hX SH_156 c3 dX10_readRow_26 ?_
    refine s_mem σ4 eσ4 ?_
    refine s_aload_n hX dX10_readRow_27 rfl ?_
    obtain ⟨r5, hc, h⟩ := bn_some h
    refine s_callVI _ hX (cX10_sign_ok (sl X)  hc) SH_123 mv_RX10_377_9 (fun _ => rfl) (by decide) (Nat.le_of_ble_eq_true rfl) hcs dX10_readRow_28 rfl ?_
    refine s_bipush 45 hX dX10_readRow_31 (by decide) ?_
    refine jn_use (fun j => ∀ (σ6 : Mm), j σ6 = some σ' → sW X 4 cs σ6 175 [some (.ref (sad X 123)), none, none, none] []) h ?_ ?_
    · intro σ6 h
      refine s_aload_n hX dX10_readRow_175 rfl ?_
      refine s_bipush 59 hX dX10_readRow_176 (by decide) ?_
      refine s_bipush 59 hX dX10_readRow_178 (by decide) ?_
      obtain ⟨r8, σ9, hc, h⟩ := bn2_some h
      refine s_callVI _ hX (cX10_takes_ok (sl X)  hc) SH_123 mv_RX10_380_9 (fun _ => rfl) (by decide) (Nat.le_of_ble_eq_true rfl) hcs dX10_readRow_180 rfl ?_
      refine s_istore_n hX dX10_readRow_183 (by decide) ?_
      refine s_aload_n hX dX10_readRow_184 rfl ?_
      refine s_dup hX dX10_readRow_185 rfl ?_
      refine s_getI hX fo_RX10_166_9 SH_123 rfl dX10_readRow_186 ?_
      refine s_iconst 1 hX dX10_readRow_189 (by decide) ?_
      refine s_iadd hX dX10_readRow_190 ?_
      obtain ⟨σ10, eσ10, h⟩ := bd_some h
      refine s_putI hX fo_RX10_166_9 SH_123 rfl dX10_readRow_191 ?_
      refine s_mem σ10 eσ10 ?_
      obtain rfl := rt1 h
      exact hret _ _ dX10_readRow_194
    · intro j7 hj7 h
      refine s_ic_ne (tgt := 54) hX dX10_readRow_33 (by decide) (fun c39 => ?_) (fun c39 => ?_)
      · replace h := (if_neg c39).symm.trans h
        refine s_aload_n hX dX10_readRow_54 rfl ?_
        obtain ⟨r11, hc, h⟩ := bn_some h
        refine s_callVI _ hX (cX10_sign_ok (sl X)  hc) SH_123 mv_RX10_377_9 (fun _ => rfl) (by decide) (Nat.le_of_ble_eq_true rfl) hcs dX10_readRow_55 rfl ?_
        refine s_bipush 48 hX dX10_readRow_58 (by decide) ?_
        refine s_bipush 57 hX dX10_readRow_60 (by decide) ?_
        obtain ⟨r12, hc, h⟩ := bn_some h
        refine s_callSI _ hX (cX10_in_ok (sl X)  hc) ms_RX10_7 (fun _ => rfl) (by decide) (Nat.le_of_ble_eq_true rfl) hcs dX10_readRow_62 rfl ?_
        refine s_if_eq (tgt := 76) hX dX10_readRow_65 (by decide) (fun c36 => ?_) (fun c36 => ?_)
        · replace h := (if_pos c36).symm.trans h
          refine s_aload_n hX dX10_readRow_76 rfl ?_
          refine s_getR (r := 157) hX fo_RX10_160_9 SH_123 rfl dX10_readRow_77 ?_
          refine s_aload_n hX dX10_readRow_80 rfl ?_
          refine s_getI hX fo_RX10_166_9 SH_123 rfl dX10_readRow_81 ?_
          refine s_aload_n hX dX10_readRow_84 rfl ?_
          obtain ⟨r13, σ14, hc, h⟩ := bn2_some h
          refine s_callVI _ hX (cX10_variable_ok (sl X)  hc) SH_123 mv_RX10_386_9 (fun _ => rfl) (by decide) (Nat.le_of_ble_eq_true rfl) hcs dX10_readRow_85 rfl ?_
          obtain ⟨c15, h⟩ := gd_some h
          obtain ⟨σ16, eσ16, h⟩ := bd_some h
          refine s_iast hX SH_157 c15 dX10_readRow_88 ?_
          refine s_mem σ16 eσ16 ?_
          refine s_aload_n hX dX10_readRow_89 rfl ?_
          refine s_getR (r := 155) hX fo_RX10_154_9 SH_123 rfl dX10_readRow_90 ?_
          refine s_aload_n hX dX10_readRow_93 rfl ?_
          refine s_getI hX fo_RX10_166_9 SH_123 rfl dX10_readRow_94 ?_
          refine s_iconst 1 hX dX10_readRow_97 (by decide) ?_
          obtain ⟨c17, h⟩ := gd_some h
          obtain ⟨σ18, eσ18, h⟩ := bd_some h
          refine s_iast hX SH_155 c17 dX10_readRow_98 ?_
          refine s_mem σ18 eσ18 ?_
          refine s_aload_n hX dX10_readRow_99 rfl ?_
          obtain ⟨r19, hc, h⟩ := bn_some h
          refine s_callVI _ hX (cX10_sign_ok (sl X)  hc) SH_123 mv_RX10_377_9 (fun _ => rfl) (by decide) (Nat.le_of_ble_eq_true rfl) hcs dX10_readRow_100 rfl ?_
          refine s_istore_n hX dX10_readRow_103 (by decide) ?_
          refine s_iload_n hX dX10_readRow_104 rfl ?_
          refine s_bipush 43 hX dX10_readRow_105 (by decide) ?_
          refine jn_use (fun j => ∀ (_u : Unit), j _u = some σ' → sW X 4 cs σ18 122 [some (.ref (sad X 123)), none, none, some (.int r19)] []) h ?_ ?_
          · intro _u h
            refine s_aload_n hX dX10_readRow_122 rfl ?_
            refine s_dup hX dX10_readRow_123 rfl ?_
            refine s_getI hX fo_RX10_148_9 SH_123 rfl dX10_readRow_124 ?_
            refine s_iconst 1 hX dX10_readRow_127 (by decide) ?_
            refine s_iadd hX dX10_readRow_128 ?_
            obtain ⟨σ21, eσ21, h⟩ := bd_some h
            refine s_putI hX fo_RX10_148_9 SH_123 rfl dX10_readRow_129 ?_
            refine s_mem σ21 eσ21 ?_
            refine s_aload_n hX dX10_readRow_132 rfl ?_
            refine s_getR (r := 155) hX fo_RX10_154_9 SH_123 rfl dX10_readRow_133 ?_
            refine s_aload_n hX dX10_readRow_136 rfl ?_
            refine s_getI hX fo_RX10_166_9 SH_123 rfl dX10_readRow_137 ?_
            refine s_iload_n hX dX10_readRow_140 rfl ?_
            refine s_bipush 43 hX dX10_readRow_141 (by decide) ?_
            refine jn_use (fun j => ∀ (v22 : Int32), j v22 = some σ' → sW X 4 cs σ21 161 [some (.ref (sad X 123)), none, none, none] [.int v22, .int (σ21 123 50), .ref (sad X 155)]) h ?_ ?_
            · intro v22 h
              obtain ⟨c24, h⟩ := gd_some h
              obtain ⟨σ25, eσ25, h⟩ := bd_some h
              refine s_iast hX SH_155 c24 dX10_readRow_161 ?_
              refine s_mem σ25 eσ25 ?_
              refine s_aload_n hX dX10_readRow_162 rfl ?_
              refine s_getR (r := 158) hX fo_RX10_163_9 SH_123 rfl dX10_readRow_163 ?_
              refine s_aload_n hX dX10_readRow_166 rfl ?_
              refine s_getI hX fo_RX10_166_9 SH_123 rfl dX10_readRow_167 ?_
              refine s_aload_n hX dX10_readRow_170 rfl ?_
              obtain ⟨r26, σ27, hc, h⟩ := bn2_some h
              refine s_callVI _ hX (cX10_variable_ok (sl X)  hc) SH_123 mv_RX10_386_9 (fun _ => rfl) (by decide) (Nat.le_of_ble_eq_true rfl) hcs dX10_readRow_171 rfl ?_
              obtain ⟨c28, h⟩ := gd_some h
              obtain ⟨σ29, eσ29, h⟩ := bd_some h
              refine s_iast hX SH_158 c28 dX10_readRow_174 ?_
              refine s_mem σ29 eσ29 ?_
              refine s_mask [true, false, false, false] ?_
              exact hj7 _ h
            · intro j23 hj23 h
              refine s_ic_ne (tgt := 150) hX dX10_readRow_143 (by decide) (fun c31 => ?_) (fun c31 => ?_)
              · replace h := (if_neg c31).symm.trans h
                refine s_iload_n hX dX10_readRow_150 rfl ?_
                refine s_bipush 45 hX dX10_readRow_151 (by decide) ?_
                refine s_ic_ne (tgt := 160) hX dX10_readRow_153 (by decide) (fun c30 => ?_) (fun c30 => ?_)
                · replace h := (if_neg c30).symm.trans h
                  refine s_iconst 4 hX dX10_readRow_160 (by decide) ?_
                  refine s_mask [true, false, false, false] ?_
                  exact hj23 _ h
                · replace h := (if_pos c30).symm.trans h
                  refine s_iconst 3 hX dX10_readRow_156 (by decide) ?_
                  refine s_goto (tgt := 161) hX dX10_readRow_157 (by decide) ?_
                  refine s_mask [true, false, false, false] ?_
                  exact hj23 _ h
              · replace h := (if_pos c31).symm.trans h
                refine s_iconst 2 hX dX10_readRow_146 (by decide) ?_
                refine s_goto (tgt := 161) hX dX10_readRow_147 (by decide) ?_
                refine s_mask [true, false, false, false] ?_
                exact hj23 _ h
          · intro j20 hj20 h
            refine s_ic_eq (tgt := 122) hX dX10_readRow_107 (by decide) (fun c34 => ?_) (fun c34 => ?_)
            · replace h := (if_pos c34).symm.trans h
              refine s_mask [true, false, false, true] ?_
              exact hj20 _ h
            · replace h := (if_neg c34).symm.trans h
              refine s_iload_n hX dX10_readRow_110 rfl ?_
              refine s_bipush 45 hX dX10_readRow_111 (by decide) ?_
              refine s_ic_eq (tgt := 122) hX dX10_readRow_113 (by decide) (fun c33 => ?_) (fun c33 => ?_)
              · replace h := (if_pos c33).symm.trans h
                refine s_mask [true, false, false, true] ?_
                exact hj20 _ h
              · replace h := (if_neg c33).symm.trans h
                refine s_iload_n hX dX10_readRow_116 rfl ?_
                refine s_bipush 42 hX dX10_readRow_117 (by decide) ?_
                refine s_ic_ne (tgt := 175) hX dX10_readRow_119 (by decide) (fun c32 => ?_) (fun c32 => ?_)
                · replace h := (if_neg c32).symm.trans h
                  refine s_mask [true, false, false, false] ?_
                  exact hj7 _ h
                · replace h := (if_pos c32).symm.trans h
                  refine s_mask [true, false, false, true] ?_
                  exact hj20 _ h
        · replace h := (if_neg c36).symm.trans h
          refine s_aload_n hX dX10_readRow_68 rfl ?_
          refine s_iconst 0 hX dX10_readRow_69 (by decide) ?_
          obtain ⟨σ35, hc, h⟩ := bn_some h
          refine s_callVV _ hX (cX10_readNumber_ok (sl X)  hc) SH_123 mv_RX10_383_9 (fun _ => rfl) (by decide) (Nat.le_of_ble_eq_true rfl) hcs dX10_readRow_70 rfl ?_
          refine s_goto (tgt := 175) hX dX10_readRow_73 (by decide) ?_
          refine s_mask [true, false, false, false] ?_
          exact hj7 _ h
      · replace h := (if_pos c39).symm.trans h
        refine s_aload_n hX dX10_readRow_36 rfl ?_
        refine s_dup hX dX10_readRow_37 rfl ?_
        refine s_getI hX fo_RX10_148_9 SH_123 rfl dX10_readRow_38 ?_
        refine s_iconst 1 hX dX10_readRow_41 (by decide) ?_
        refine s_iadd hX dX10_readRow_42 ?_
        obtain ⟨σ37, eσ37, h⟩ := bd_some h
        refine s_putI hX fo_RX10_148_9 SH_123 rfl dX10_readRow_43 ?_
        refine s_mem σ37 eσ37 ?_
        refine s_aload_n hX dX10_readRow_46 rfl ?_
        refine s_iconst 1 hX dX10_readRow_47 (by decide) ?_
        obtain ⟨σ38, hc, h⟩ := bn_some h
        refine s_callVV _ hX (cX10_readNumber_ok (sl X)  hc) SH_123 mv_RX10_383_9 (fun _ => rfl) (by decide) (Nat.le_of_ble_eq_true rfl) hcs dX10_readRow_48 rfl ?_
        refine s_goto (tgt := 175) hX dX10_readRow_51 (by decide) ?_
        refine s_mask [true, false, false, false] ?_
        exact hj7 _ h
  · replace h := (if_neg c40).symm.trans h
    obtain rfl := rt1 h
    exact hret _ _ dX10_readRow_16
def fX10_isNext (σ : Mm) (l1 : Int32) : Option Int32 :=
  if (σ 123 45) = 0 then
  if (σ 123 43) ≤ ((σ 123 44) + 1) then
  some 0
else
  gd ((σ 123 44) + 1) 80 <|
  if (σ 154 ((σ 123 44) + 1).toNatClampNeg) = l1 then
  some 1
else
  some 0
else
  some 0
set_option maxHeartbeats 4000000 in
theorem cX10_isNext_ok (l : Launch) {σ : Mm} {l1 : Int32} {r : Int32}  (h : fX10_isNext σ l1 = some r) : cI l yX10_isNext cX10_isNext 2 .boolean 0 0 (fun ad => [.ref (ad 123), .int l1]) σ r σ := by
  refine c_enterI (fun ad => [some (.ref (ad 123)), some (.int l1)]) (by decide) (fun ad => ⟨by simp [Value.category], Nat.le_of_ble_eq_true rfl⟩) (fun ad => ⟨0, rfl⟩) ?_
  intro X _ hX hret
  have hcs : ((0 : Nat), (0 : Nat)).1 ≤ (sR X).cells ∧ ((0 : Nat), (0 : Nat)).2 ≤ (sR X).slots := ⟨Nat.zero_le _, Nat.zero_le _⟩
  generalize hcs0 : ((0 : Nat), (0 : Nat)) = cs at hcs hret ⊢
  unfold fX10_isNext at h
  show sW X 2 cs σ 0 [some (.ref (sad X 123)), some (.int l1)] []
  refine s_aload_n hX dX10_isNext_0 rfl ?_
  refine s_getI hX fo_RX10_151_9 SH_123 rfl dX10_isNext_1 ?_
  refine s_if_ne (tgt := 39) hX dX10_isNext_4 (by decide) (fun c4 => ?_) (fun c4 => ?_)
  · replace h := (if_neg c4).symm.trans h
    refine s_iconst 0 hX dX10_isNext_39 (by decide) ?_
    obtain rfl := rt1 h
    exact hret _ _ nz0 dX10_isNext_40
  · replace h := (if_pos c4).symm.trans h
    refine s_aload_n hX dX10_isNext_7 rfl ?_
    refine s_getI hX fo_RX10_148_9 SH_123 rfl dX10_isNext_8 ?_
    refine s_iconst 1 hX dX10_isNext_11 (by decide) ?_
    refine s_iadd hX dX10_isNext_12 ?_
    refine s_aload_n hX dX10_isNext_13 rfl ?_
    refine s_getI hX fo_RX10_145_9 SH_123 rfl dX10_isNext_14 ?_
    refine s_ic_ge (tgt := 39) hX dX10_isNext_17 (by decide) (fun c3 => ?_) (fun c3 => ?_)
    · replace h := (if_pos c3).symm.trans h
      refine s_iconst 0 hX dX10_isNext_39 (by decide) ?_
      obtain rfl := rt1 h
      exact hret _ _ nz0 dX10_isNext_40
    · replace h := (if_neg c3).symm.trans h
      refine s_aload_n hX dX10_isNext_20 rfl ?_
      refine s_getR (r := 154) hX fo_RX10_142_9 SH_123 rfl dX10_isNext_21 ?_
      refine s_aload_n hX dX10_isNext_24 rfl ?_
      refine s_getI hX fo_RX10_148_9 SH_123 rfl dX10_isNext_25 ?_
      refine s_iconst 1 hX dX10_isNext_28 (by decide) ?_
      refine s_iadd hX dX10_isNext_29 ?_
      obtain ⟨c1, h⟩ := gd_some h
      refine s_iald hX SH_154 c1 dX10_isNext_30 ?_
      refine s_iload_n hX dX10_isNext_31 rfl ?_
      refine s_ic_ne (tgt := 39) hX dX10_isNext_32 (by decide) (fun c2 => ?_) (fun c2 => ?_)
      · replace h := (if_neg c2).symm.trans h
        refine s_iconst 0 hX dX10_isNext_39 (by decide) ?_
        obtain rfl := rt1 h
        exact hret _ _ nz0 dX10_isNext_40
      · replace h := (if_pos c2).symm.trans h
        refine s_iconst 1 hX dX10_isNext_35 (by decide) ?_
        refine s_goto (tgt := 40) hX dX10_isNext_36 (by decide) ?_
        obtain rfl := rt1 h
        exact hret _ _ nz1 dX10_isNext_40
def fX10_readGo (σ : Mm) : Option Mm :=
  bd (upm σ 123 (upd (σ 123) 44 ((σ 123 44) + 2))) fun σ1 =>
  bn2 (fX10_blank σ1) fun r2 σ3 =>
  bd (upm σ3 123 (upd (σ3 123) 51 0)) fun σ4 =>
  bn2 (fX10_blockDigit σ4) fun r5 σ6 =>
  bd (upm σ6 123 (upd (σ6 123) 53 r5)) fun σ7 =>
  some σ7
set_option maxHeartbeats 4000000 in
theorem cX10_readGo_ok (l : Launch) {σ : Mm} {σ' : Mm}  (h : fX10_readGo σ = some σ') : cV l yX10_readGo cX10_readGo 2 3 65 (fun ad => [.ref (ad 123)]) σ σ' := by
  refine c_enterV (fun ad => [some (.ref (ad 123)), none]) (by decide) (fun ad => ⟨by simp [Value.category], Nat.le_of_ble_eq_true rfl⟩) (fun ad => ⟨1, rfl⟩) ?_
  intro X _ hX hret
  have hcs : ((0 : Nat), (0 : Nat)).1 ≤ (sR X).cells ∧ ((0 : Nat), (0 : Nat)).2 ≤ (sR X).slots := ⟨Nat.zero_le _, Nat.zero_le _⟩
  generalize hcs0 : ((0 : Nat), (0 : Nat)) = cs at hcs hret ⊢
  unfold fX10_readGo at h
  show sW X 2 cs σ 0 [some (.ref (sad X 123)), none] []
  refine s_aload_n hX dX10_readGo_0 rfl ?_
  refine s_dup hX dX10_readGo_1 rfl ?_
  refine s_getI hX fo_RX10_148_9 SH_123 rfl dX10_readGo_2 ?_
  refine s_iconst 2 hX dX10_readGo_5 (by decide) ?_
  refine s_iadd hX dX10_readGo_6 ?_
  obtain ⟨σ1, eσ1, h⟩ := bd_some h
  refine s_putI hX fo_RX10_148_9 SH_123 rfl dX10_readGo_7 ?_
  refine s_mem σ1 eσ1 ?_
  refine s_aload_n hX dX10_readGo_10 rfl ?_
  obtain ⟨r2, σ3, hc, h⟩ := bn2_some h
  refine s_callVI _ hX (cX10_blank_ok (sl X)  hc) SH_123 mv_RX10_389_9 (fun _ => rfl) (by decide) (Nat.le_of_ble_eq_true rfl) hcs dX10_readGo_11 rfl ?_
  refine s_istore_n hX dX10_readGo_14 (by decide) ?_
  refine s_aload_n hX dX10_readGo_15 rfl ?_
  refine s_iconst 0 hX dX10_readGo_16 (by decide) ?_
  obtain ⟨σ4, eσ4, h⟩ := bd_some h
  refine s_putI hX fo_RX10_169_9 SH_123 rfl dX10_readGo_17 ?_
  refine s_mem σ4 eσ4 ?_
  refine s_aload_n hX dX10_readGo_20 rfl ?_
  refine s_aload_n hX dX10_readGo_21 rfl ?_
  obtain ⟨r5, σ6, hc, h⟩ := bn2_some h
  refine s_callVI _ hX (cX10_blockDigit_ok (sl X)  hc) SH_123 mv_RX10_392_9 (fun _ => rfl) (by decide) (Nat.le_of_ble_eq_true rfl) hcs dX10_readGo_22 rfl ?_
  obtain ⟨σ7, eσ7, h⟩ := bd_some h
  refine s_putI hX fo_RX10_175_9 SH_123 rfl dX10_readGo_25 ?_
  refine s_mem σ7 eσ7 ?_
  obtain rfl := rt1 h
  exact hret _ _ dX10_readGo_28
def fX10_readIf (σ : Mm) : Option Mm :=
  bd (upm σ 123 (upd (σ 123) 44 ((σ 123 44) + 2))) fun σ1 =>
  bn2 (fX10_blank σ1) fun r2 σ3 =>
  bd (upm σ3 123 (upd (σ3 123) 51 1)) fun σ4 =>
  bn2 (fX10_variable σ4) fun r5 σ6 =>
  bd (upm σ6 123 (upd (σ6 123) 52 r5)) fun σ7 =>
  bn2 (fX10_blank σ7) fun r8 σ9 =>
  bn2 (fX10_blockDigit σ9) fun r10 σ11 =>
  bd (upm σ11 123 (upd (σ11 123) 53 r10)) fun σ12 =>
  bn2 (fX10_blank σ12) fun r13 σ14 =>
  bn2 (fX10_blockDigit σ14) fun r15 σ16 =>
  bd (upm σ16 123 (upd (σ16 123) 54 r15)) fun σ17 =>
  some σ17
set_option maxHeartbeats 4000000 in
theorem cX10_readIf_ok (l : Launch) {σ : Mm} {σ' : Mm}  (h : fX10_readIf σ = some σ') : cV l yX10_readIf cX10_readIf 2 3 65 (fun ad => [.ref (ad 123)]) σ σ' := by
  refine c_enterV (fun ad => [some (.ref (ad 123)), none]) (by decide) (fun ad => ⟨by simp [Value.category], Nat.le_of_ble_eq_true rfl⟩) (fun ad => ⟨1, rfl⟩) ?_
  intro X _ hX hret
  have hcs : ((0 : Nat), (0 : Nat)).1 ≤ (sR X).cells ∧ ((0 : Nat), (0 : Nat)).2 ≤ (sR X).slots := ⟨Nat.zero_le _, Nat.zero_le _⟩
  generalize hcs0 : ((0 : Nat), (0 : Nat)) = cs at hcs hret ⊢
  unfold fX10_readIf at h
  show sW X 2 cs σ 0 [some (.ref (sad X 123)), none] []
  refine s_aload_n hX dX10_readIf_0 rfl ?_
  refine s_dup hX dX10_readIf_1 rfl ?_
  refine s_getI hX fo_RX10_148_9 SH_123 rfl dX10_readIf_2 ?_
  refine s_iconst 2 hX dX10_readIf_5 (by decide) ?_
  refine s_iadd hX dX10_readIf_6 ?_
  obtain ⟨σ1, eσ1, h⟩ := bd_some h
  refine s_putI hX fo_RX10_148_9 SH_123 rfl dX10_readIf_7 ?_
  refine s_mem σ1 eσ1 ?_
  refine s_aload_n hX dX10_readIf_10 rfl ?_
  obtain ⟨r2, σ3, hc, h⟩ := bn2_some h
  refine s_callVI _ hX (cX10_blank_ok (sl X)  hc) SH_123 mv_RX10_389_9 (fun _ => rfl) (by decide) (Nat.le_of_ble_eq_true rfl) hcs dX10_readIf_11 rfl ?_
  refine s_istore_n hX dX10_readIf_14 (by decide) ?_
  refine s_aload_n hX dX10_readIf_15 rfl ?_
  refine s_iconst 1 hX dX10_readIf_16 (by decide) ?_
  obtain ⟨σ4, eσ4, h⟩ := bd_some h
  refine s_putI hX fo_RX10_169_9 SH_123 rfl dX10_readIf_17 ?_
  refine s_mem σ4 eσ4 ?_
  refine s_aload_n hX dX10_readIf_20 rfl ?_
  refine s_aload_n hX dX10_readIf_21 rfl ?_
  obtain ⟨r5, σ6, hc, h⟩ := bn2_some h
  refine s_callVI _ hX (cX10_variable_ok (sl X)  hc) SH_123 mv_RX10_386_9 (fun _ => rfl) (by decide) (Nat.le_of_ble_eq_true rfl) hcs dX10_readIf_22 rfl ?_
  obtain ⟨σ7, eσ7, h⟩ := bd_some h
  refine s_putI hX fo_RX10_172_9 SH_123 rfl dX10_readIf_25 ?_
  refine s_mem σ7 eσ7 ?_
  refine s_aload_n hX dX10_readIf_28 rfl ?_
  obtain ⟨r8, σ9, hc, h⟩ := bn2_some h
  refine s_callVI _ hX (cX10_blank_ok (sl X)  hc) SH_123 mv_RX10_389_9 (fun _ => rfl) (by decide) (Nat.le_of_ble_eq_true rfl) hcs dX10_readIf_29 rfl ?_
  refine s_istore_n hX dX10_readIf_32 (by decide) ?_
  refine s_aload_n hX dX10_readIf_33 rfl ?_
  refine s_aload_n hX dX10_readIf_34 rfl ?_
  obtain ⟨r10, σ11, hc, h⟩ := bn2_some h
  refine s_callVI _ hX (cX10_blockDigit_ok (sl X)  hc) SH_123 mv_RX10_392_9 (fun _ => rfl) (by decide) (Nat.le_of_ble_eq_true rfl) hcs dX10_readIf_35 rfl ?_
  obtain ⟨σ12, eσ12, h⟩ := bd_some h
  refine s_putI hX fo_RX10_175_9 SH_123 rfl dX10_readIf_38 ?_
  refine s_mem σ12 eσ12 ?_
  refine s_aload_n hX dX10_readIf_41 rfl ?_
  obtain ⟨r13, σ14, hc, h⟩ := bn2_some h
  refine s_callVI _ hX (cX10_blank_ok (sl X)  hc) SH_123 mv_RX10_389_9 (fun _ => rfl) (by decide) (Nat.le_of_ble_eq_true rfl) hcs dX10_readIf_42 rfl ?_
  refine s_istore_n hX dX10_readIf_45 (by decide) ?_
  refine s_aload_n hX dX10_readIf_46 rfl ?_
  refine s_aload_n hX dX10_readIf_47 rfl ?_
  obtain ⟨r15, σ16, hc, h⟩ := bn2_some h
  refine s_callVI _ hX (cX10_blockDigit_ok (sl X)  hc) SH_123 mv_RX10_392_9 (fun _ => rfl) (by decide) (Nat.le_of_ble_eq_true rfl) hcs dX10_readIf_48 rfl ?_
  obtain ⟨σ17, eσ17, h⟩ := bd_some h
  refine s_putI hX fo_RX10_178_9 SH_123 rfl dX10_readIf_51 ?_
  refine s_mem σ17 eσ17 ?_
  obtain rfl := rt1 h
  exact hret _ _ dX10_readIf_54
def fX10_readStop (σ : Mm) : Option Mm :=
  bn2 (fX10_takes σ 115 115) fun r1 σ2 =>
  bn2 (fX10_takes σ2 116 116) fun r3 σ4 =>
  bn2 (fX10_takes σ4 111 111) fun r5 σ6 =>
  bn2 (fX10_takes σ6 112 112) fun r7 σ8 =>
  bn2 (fX10_blank σ8) fun r9 σ10 =>
  bd (upm σ10 123 (upd (σ10 123) 51 2)) fun σ11 =>
  bn2 (fX10_variable σ11) fun r12 σ13 =>
  bd (upm σ13 123 (upd (σ13 123) 52 r12)) fun σ14 =>
  some σ14
set_option maxHeartbeats 4000000 in
theorem cX10_readStop_ok (l : Launch) {σ : Mm} {σ' : Mm}  (h : fX10_readStop σ = some σ') : cV l yX10_readStop cX10_readStop 2 3 65 (fun ad => [.ref (ad 123)]) σ σ' := by
  refine c_enterV (fun ad => [some (.ref (ad 123)), none]) (by decide) (fun ad => ⟨by simp [Value.category], Nat.le_of_ble_eq_true rfl⟩) (fun ad => ⟨1, rfl⟩) ?_
  intro X _ hX hret
  have hcs : ((0 : Nat), (0 : Nat)).1 ≤ (sR X).cells ∧ ((0 : Nat), (0 : Nat)).2 ≤ (sR X).slots := ⟨Nat.zero_le _, Nat.zero_le _⟩
  generalize hcs0 : ((0 : Nat), (0 : Nat)) = cs at hcs hret ⊢
  unfold fX10_readStop at h
  show sW X 2 cs σ 0 [some (.ref (sad X 123)), none] []
  refine s_aload_n hX dX10_readStop_0 rfl ?_
  refine s_bipush 115 hX dX10_readStop_1 (by decide) ?_
  refine s_bipush 115 hX dX10_readStop_3 (by decide) ?_
  obtain ⟨r1, σ2, hc, h⟩ := bn2_some h
  refine s_callVI _ hX (cX10_takes_ok (sl X)  hc) SH_123 mv_RX10_380_9 (fun _ => rfl) (by decide) (Nat.le_of_ble_eq_true rfl) hcs dX10_readStop_5 rfl ?_
  refine s_istore_n hX dX10_readStop_8 (by decide) ?_
  refine s_aload_n hX dX10_readStop_9 rfl ?_
  refine s_bipush 116 hX dX10_readStop_10 (by decide) ?_
  refine s_bipush 116 hX dX10_readStop_12 (by decide) ?_
  obtain ⟨r3, σ4, hc, h⟩ := bn2_some h
  refine s_callVI _ hX (cX10_takes_ok (sl X)  hc) SH_123 mv_RX10_380_9 (fun _ => rfl) (by decide) (Nat.le_of_ble_eq_true rfl) hcs dX10_readStop_14 rfl ?_
  refine s_istore_n hX dX10_readStop_17 (by decide) ?_
  refine s_aload_n hX dX10_readStop_18 rfl ?_
  refine s_bipush 111 hX dX10_readStop_19 (by decide) ?_
  refine s_bipush 111 hX dX10_readStop_21 (by decide) ?_
  obtain ⟨r5, σ6, hc, h⟩ := bn2_some h
  refine s_callVI _ hX (cX10_takes_ok (sl X)  hc) SH_123 mv_RX10_380_9 (fun _ => rfl) (by decide) (Nat.le_of_ble_eq_true rfl) hcs dX10_readStop_23 rfl ?_
  refine s_istore_n hX dX10_readStop_26 (by decide) ?_
  refine s_aload_n hX dX10_readStop_27 rfl ?_
  refine s_bipush 112 hX dX10_readStop_28 (by decide) ?_
  refine s_bipush 112 hX dX10_readStop_30 (by decide) ?_
  obtain ⟨r7, σ8, hc, h⟩ := bn2_some h
  refine s_callVI _ hX (cX10_takes_ok (sl X)  hc) SH_123 mv_RX10_380_9 (fun _ => rfl) (by decide) (Nat.le_of_ble_eq_true rfl) hcs dX10_readStop_32 rfl ?_
  refine s_istore_n hX dX10_readStop_35 (by decide) ?_
  refine s_aload_n hX dX10_readStop_36 rfl ?_
  obtain ⟨r9, σ10, hc, h⟩ := bn2_some h
  refine s_callVI _ hX (cX10_blank_ok (sl X)  hc) SH_123 mv_RX10_389_9 (fun _ => rfl) (by decide) (Nat.le_of_ble_eq_true rfl) hcs dX10_readStop_37 rfl ?_
  refine s_istore_n hX dX10_readStop_40 (by decide) ?_
  refine s_aload_n hX dX10_readStop_41 rfl ?_
  refine s_iconst 2 hX dX10_readStop_42 (by decide) ?_
  obtain ⟨σ11, eσ11, h⟩ := bd_some h
  refine s_putI hX fo_RX10_169_9 SH_123 rfl dX10_readStop_43 ?_
  refine s_mem σ11 eσ11 ?_
  refine s_aload_n hX dX10_readStop_46 rfl ?_
  refine s_aload_n hX dX10_readStop_47 rfl ?_
  obtain ⟨r12, σ13, hc, h⟩ := bn2_some h
  refine s_callVI _ hX (cX10_variable_ok (sl X)  hc) SH_123 mv_RX10_386_9 (fun _ => rfl) (by decide) (Nat.le_of_ble_eq_true rfl) hcs dX10_readStop_48 rfl ?_
  obtain ⟨σ14, eσ14, h⟩ := bd_some h
  refine s_putI hX fo_RX10_172_9 SH_123 rfl dX10_readStop_51 ?_
  refine s_mem σ14 eσ14 ?_
  obtain rfl := rt1 h
  exact hret _ _ dX10_readStop_54
def fX10_readOne (σ : Mm) : Option (Int32 × Mm) :=
  (fX10_sign σ).bind fun r1 =>
  jn (fun (_u : Unit) => (fX10_sign σ).bind fun r3 =>
  jn (fun (_u : Unit) => (fX10_sign σ).bind fun r5 =>
  if r5 = 115 then
  (fX10_readStop σ).bind fun σ18 =>
  some (1, σ18)
else
  if (σ 123 50) = 8 then
  (fX10_sign σ).bind fun r9 =>
  jn (fun (_u : Unit) => bd (upm σ 123 (upd (σ 123) 44 ((σ 123 44) + 1))) fun σ11 =>
  bd (upm σ11 123 (upd (σ11 123) 45 1)) fun σ12 =>
  some (1, σ12)) fun j10 =>
  if r9 = 103 then
  j10 ()
else
  (fX10_sign σ).bind fun r13 =>
  if r13 = 105 then
  j10 ()
else
  bd (upm σ 123 (upd (σ 123) 45 1)) fun σ14 =>
  some (1, σ14)
else
  bn2 (fX10_variable σ) fun r6 σ7 =>
  (fX10_readRow σ7 r6).bind fun σ8 =>
  gb (σ8 123 45) (some (σ8 123 45, σ8))) fun j4 =>
  if r3 = 105 then
  (fX10_isNext σ 102).bind fun r20 =>
  if r20 = 0 then
  j4 ()
else
  (fX10_readIf σ).bind fun σ21 =>
  some (1, σ21)
else
  j4 ()) fun j2 =>
  if r1 = 103 then
  (fX10_isNext σ 111).bind fun r24 =>
  if r24 = 0 then
  j2 ()
else
  (fX10_readGo σ).bind fun σ25 =>
  some (1, σ25)
else
  j2 ()
set_option maxHeartbeats 4000000 in
theorem cX10_readOne_ok (l : Launch) {σ : Mm} {r : Int32} {σ' : Mm}  (h : fX10_readOne σ = some (r, σ')) : cI l yX10_readOne cX10_readOne 1 .boolean 4 91 (fun ad => [.ref (ad 123)]) σ r σ' := by
  refine c_enterI (fun ad => [some (.ref (ad 123))]) (by decide) (fun ad => ⟨by simp [Value.category], Nat.le_of_ble_eq_true rfl⟩) (fun ad => ⟨0, rfl⟩) ?_
  intro X _ hX hret
  have hcs : ((0 : Nat), (0 : Nat)).1 ≤ (sR X).cells ∧ ((0 : Nat), (0 : Nat)).2 ≤ (sR X).slots := ⟨Nat.zero_le _, Nat.zero_le _⟩
  generalize hcs0 : ((0 : Nat), (0 : Nat)) = cs at hcs hret ⊢
  unfold fX10_readOne at h
  show sW X 1 cs σ 0 [some (.ref (sad X 123))] []
  refine s_aload_n hX dX10_readOne_0 rfl ?_
  obtain ⟨r1, hc, h⟩ := bn_some h
  refine s_callVI _ hX (cX10_sign_ok (sl X)  hc) SH_123 mv_RX10_377_9 (fun _ => rfl) (by decide) (Nat.le_of_ble_eq_true rfl) hcs dX10_readOne_1 rfl ?_
  refine s_bipush 103 hX dX10_readOne_4 (by decide) ?_
  refine jn_use (fun j => ∀ (_u : Unit), j _u = some (r, σ') → sW X 1 cs σ 24 [some (.ref (sad X 123))] []) h ?_ ?_
  · intro _u h
    refine s_aload_n hX dX10_readOne_24 rfl ?_
    obtain ⟨r3, hc, h⟩ := bn_some h
    refine s_callVI _ hX (cX10_sign_ok (sl X)  hc) SH_123 mv_RX10_377_9 (fun _ => rfl) (by decide) (Nat.le_of_ble_eq_true rfl) hcs dX10_readOne_25 rfl ?_
    refine s_bipush 105 hX dX10_readOne_28 (by decide) ?_
    refine jn_use (fun j => ∀ (_u : Unit), j _u = some (r, σ') → sW X 1 cs σ 48 [some (.ref (sad X 123))] []) h ?_ ?_
    · intro _u h
      refine s_aload_n hX dX10_readOne_48 rfl ?_
      obtain ⟨r5, hc, h⟩ := bn_some h
      refine s_callVI _ hX (cX10_sign_ok (sl X)  hc) SH_123 mv_RX10_377_9 (fun _ => rfl) (by decide) (Nat.le_of_ble_eq_true rfl) hcs dX10_readOne_49 rfl ?_
      refine s_bipush 115 hX dX10_readOne_52 (by decide) ?_
      refine s_ic_ne (tgt := 63) hX dX10_readOne_54 (by decide) (fun c19 => ?_) (fun c19 => ?_)
      · replace h := (if_neg c19).symm.trans h
        refine s_aload_n hX dX10_readOne_63 rfl ?_
        refine s_getI hX fo_RX10_166_9 SH_123 rfl dX10_readOne_64 ?_
        refine s_bipush 8 hX dX10_readOne_67 (by decide) ?_
        refine s_ic_ne (tgt := 107) hX dX10_readOne_69 (by decide) (fun c17 => ?_) (fun c17 => ?_)
        · replace h := (if_neg c17).symm.trans h
          refine s_aload_n hX dX10_readOne_107 rfl ?_
          refine s_aload_n hX dX10_readOne_108 rfl ?_
          obtain ⟨r6, σ7, hc, h⟩ := bn2_some h
          refine s_callVI _ hX (cX10_variable_ok (sl X)  hc) SH_123 mv_RX10_386_9 (fun _ => rfl) (by decide) (Nat.le_of_ble_eq_true rfl) hcs dX10_readOne_109 rfl ?_
          obtain ⟨σ8, hc, h⟩ := bn_some h
          refine s_callVV _ hX (cX10_readRow_ok (sl X)  hc) SH_123 mv_RX10_407_9 (fun _ => rfl) (by decide) (Nat.le_of_ble_eq_true rfl) hcs dX10_readOne_112 rfl ?_
          refine s_aload_n hX dX10_readOne_115 rfl ?_
          refine s_getI hX fo_RX10_151_9 SH_123 rfl dX10_readOne_116 ?_
          obtain ⟨hv, h⟩ := gb_some h
          obtain ⟨rfl, rfl⟩ := rt2 h
          exact hret _ _ (gb_n hv) dX10_readOne_119
        · replace h := (if_pos c17).symm.trans h
          refine s_aload_n hX dX10_readOne_72 rfl ?_
          obtain ⟨r9, hc, h⟩ := bn_some h
          refine s_callVI _ hX (cX10_sign_ok (sl X)  hc) SH_123 mv_RX10_377_9 (fun _ => rfl) (by decide) (Nat.le_of_ble_eq_true rfl) hcs dX10_readOne_73 rfl ?_
          refine s_bipush 103 hX dX10_readOne_76 (by decide) ?_
          refine jn_use (fun j => ∀ (_u : Unit), j _u = some (r, σ') → sW X 1 cs σ 90 [some (.ref (sad X 123))] []) h ?_ ?_
          · intro _u h
            refine s_aload_n hX dX10_readOne_90 rfl ?_
            refine s_dup hX dX10_readOne_91 rfl ?_
            refine s_getI hX fo_RX10_148_9 SH_123 rfl dX10_readOne_92 ?_
            refine s_iconst 1 hX dX10_readOne_95 (by decide) ?_
            refine s_iadd hX dX10_readOne_96 ?_
            obtain ⟨σ11, eσ11, h⟩ := bd_some h
            refine s_putI hX fo_RX10_148_9 SH_123 rfl dX10_readOne_97 ?_
            refine s_mem σ11 eσ11 ?_
            refine s_aload_n hX dX10_readOne_100 rfl ?_
            refine s_iconst 1 hX dX10_readOne_101 (by decide) ?_
            obtain ⟨σ12, eσ12, h⟩ := bd_some h
            refine s_putZ hX fo_RX10_151_9 SH_123 rfl (Or.inr rfl) dX10_readOne_102 ?_
            refine s_mem σ12 eσ12 ?_
            refine s_iconst 1 hX dX10_readOne_105 (by decide) ?_
            obtain ⟨rfl, rfl⟩ := rt2 h
            exact hret _ _ nz1 dX10_readOne_106
          · intro j10 hj10 h
            refine s_ic_eq (tgt := 90) hX dX10_readOne_78 (by decide) (fun c16 => ?_) (fun c16 => ?_)
            · replace h := (if_pos c16).symm.trans h
              refine s_mask [true] ?_
              exact hj10 _ h
            · replace h := (if_neg c16).symm.trans h
              refine s_aload_n hX dX10_readOne_81 rfl ?_
              obtain ⟨r13, hc, h⟩ := bn_some h
              refine s_callVI _ hX (cX10_sign_ok (sl X)  hc) SH_123 mv_RX10_377_9 (fun _ => rfl) (by decide) (Nat.le_of_ble_eq_true rfl) hcs dX10_readOne_82 rfl ?_
              refine s_bipush 105 hX dX10_readOne_85 (by decide) ?_
              refine s_ic_ne (tgt := 100) hX dX10_readOne_87 (by decide) (fun c15 => ?_) (fun c15 => ?_)
              · replace h := (if_neg c15).symm.trans h
                refine s_aload_n hX dX10_readOne_100 rfl ?_
                refine s_iconst 1 hX dX10_readOne_101 (by decide) ?_
                obtain ⟨σ14, eσ14, h⟩ := bd_some h
                refine s_putZ hX fo_RX10_151_9 SH_123 rfl (Or.inr rfl) dX10_readOne_102 ?_
                refine s_mem σ14 eσ14 ?_
                refine s_iconst 1 hX dX10_readOne_105 (by decide) ?_
                obtain ⟨rfl, rfl⟩ := rt2 h
                exact hret _ _ nz1 dX10_readOne_106
              · replace h := (if_pos c15).symm.trans h
                refine s_mask [true] ?_
                exact hj10 _ h
      · replace h := (if_pos c19).symm.trans h
        refine s_aload_n hX dX10_readOne_57 rfl ?_
        obtain ⟨σ18, hc, h⟩ := bn_some h
        refine s_callVV _ hX (cX10_readStop_ok (sl X)  hc) SH_123 mv_RX10_404_9 (fun _ => rfl) (by decide) (Nat.le_of_ble_eq_true rfl) hcs dX10_readOne_58 rfl ?_
        refine s_iconst 1 hX dX10_readOne_61 (by decide) ?_
        obtain ⟨rfl, rfl⟩ := rt2 h
        exact hret _ _ nz1 dX10_readOne_62
    · intro j4 hj4 h
      refine s_ic_ne (tgt := 48) hX dX10_readOne_30 (by decide) (fun c23 => ?_) (fun c23 => ?_)
      · replace h := (if_neg c23).symm.trans h
        refine s_mask [true] ?_
        exact hj4 _ h
      · replace h := (if_pos c23).symm.trans h
        refine s_aload_n hX dX10_readOne_33 rfl ?_
        refine s_bipush 102 hX dX10_readOne_34 (by decide) ?_
        obtain ⟨r20, hc, h⟩ := bn_some h
        refine s_callVI _ hX (cX10_isNext_ok (sl X)  hc) SH_123 mv_RX10_395_9 (fun _ => rfl) (by decide) (Nat.le_of_ble_eq_true rfl) hcs dX10_readOne_36 rfl ?_
        refine s_if_eq (tgt := 48) hX dX10_readOne_39 (by decide) (fun c22 => ?_) (fun c22 => ?_)
        · replace h := (if_pos c22).symm.trans h
          refine s_mask [true] ?_
          exact hj4 _ h
        · replace h := (if_neg c22).symm.trans h
          refine s_aload_n hX dX10_readOne_42 rfl ?_
          obtain ⟨σ21, hc, h⟩ := bn_some h
          refine s_callVV _ hX (cX10_readIf_ok (sl X)  hc) SH_123 mv_RX10_401_9 (fun _ => rfl) (by decide) (Nat.le_of_ble_eq_true rfl) hcs dX10_readOne_43 rfl ?_
          refine s_iconst 1 hX dX10_readOne_46 (by decide) ?_
          obtain ⟨rfl, rfl⟩ := rt2 h
          exact hret _ _ nz1 dX10_readOne_47
  · intro j2 hj2 h
    refine s_ic_ne (tgt := 24) hX dX10_readOne_6 (by decide) (fun c27 => ?_) (fun c27 => ?_)
    · replace h := (if_neg c27).symm.trans h
      refine s_mask [true] ?_
      exact hj2 _ h
    · replace h := (if_pos c27).symm.trans h
      refine s_aload_n hX dX10_readOne_9 rfl ?_
      refine s_bipush 111 hX dX10_readOne_10 (by decide) ?_
      obtain ⟨r24, hc, h⟩ := bn_some h
      refine s_callVI _ hX (cX10_isNext_ok (sl X)  hc) SH_123 mv_RX10_395_9 (fun _ => rfl) (by decide) (Nat.le_of_ble_eq_true rfl) hcs dX10_readOne_12 rfl ?_
      refine s_if_eq (tgt := 24) hX dX10_readOne_15 (by decide) (fun c26 => ?_) (fun c26 => ?_)
      · replace h := (if_pos c26).symm.trans h
        refine s_mask [true] ?_
        exact hj2 _ h
      · replace h := (if_neg c26).symm.trans h
        refine s_aload_n hX dX10_readOne_18 rfl ?_
        obtain ⟨σ25, hc, h⟩ := bn_some h
        refine s_callVV _ hX (cX10_readGo_ok (sl X)  hc) SH_123 mv_RX10_398_9 (fun _ => rfl) (by decide) (Nat.le_of_ble_eq_true rfl) hcs dX10_readOne_19 rfl ?_
        refine s_iconst 1 hX dX10_readOne_22 (by decide) ?_
        obtain ⟨rfl, rfl⟩ := rt2 h
        exact hret _ _ nz1 dX10_readOne_23
def gX10_read_36 (l1 : Int32) (rec : Mm × Int32 → Option (Mm)) (σ : Mm) (x2 : Int32) : Option (Mm) :=
  if x2 = 0 then
  bn2 (fX10_readOne σ) fun r1 σ2 =>
  rec (σ2, r1)
else
  some σ
def qX10_read_36 (l1 : Int32) : Nat → Mm × Int32 → Option (Mm) := lp (fun rec s => gX10_read_36 l1 rec s.1 s.2)
def gX10_read_104 (l1 : Int32) (rec : Mm × Int32 → Option (Mm)) (σ : Mm) (x3 : Int32) : Option (Mm) :=
  if (σ 123 50) ≤ x3 then
  some σ
else
  gd x3 8 <|
  gd x3 8 <|
  gd x3 8 <|
  gd x3 8 <|
  (fX10_lays σ l1 (σ 155 x3.toNatClampNeg) (σ 156 x3.toNatClampNeg) (σ 157 x3.toNatClampNeg) (σ 158 x3.toNatClampNeg)).bind fun σ5 =>
  bd (x3 + 1) fun v6 =>
  rec (σ5, v6)
def qX10_read_104 (l1 : Int32) : Nat → Mm × Int32 → Option (Mm) := lp (fun rec s => gX10_read_104 l1 rec s.1 s.2)
def fX10_read (σ : Mm) (l1 : Int32) : Option (Int32 × Mm) :=
  bd (upm σ 123 (upd (σ 123) 0 0)) fun σ1 =>
  (fX10_isBlock σ1 l1).bind fun r2 =>
  if r2 = 0 then
  bn2 (fX10_fails σ1 1) fun r20 σ21 =>
  some (r20, σ21)
else
  bd (upm σ1 123 (upd (σ1 123) 44 0)) fun σ3 =>
  bd (upm σ3 123 (upd (σ3 123) 45 0)) fun σ4 =>
  bd (upm σ4 123 (upd (σ4 123) 50 0)) fun σ5 =>
  (qX10_read_36 l1 FU (σ5, 0)).bind fun σ6 =>
  jn (fun (v7 : Int32) => gb v7 <|
  bd (upm σ6 123 (upd (σ6 123) 45 v7)) fun σ9 =>
  bd (upm σ9 123 (upd (σ9 123) 43 0)) fun σ11 =>
  if (σ11 123 45) = 0 then
  gd l1 8 <|
  bd (upm σ11 124 (upd (σ11 124) l1.toNatClampNeg 0)) fun σ13 =>
  (qX10_read_104 l1 FU (σ13, 0)).bind fun σ14 =>
  (fX10_ends σ14 l1 (σ14 123 51) (σ14 123 52) (σ14 123 53) (σ14 123 54)).bind fun σ15 =>
  bd (upm σ15 123 (upd (σ15 123) 14 0)) fun σ16 =>
  some (σ16 123 50, σ16)
else
  some ((-100) - (σ11 123 44), σ11)) fun j8 =>
  if (σ6 123 45) = 0 then
  if (σ6 123 43) ≤ (σ6 123 44) then
  j8 0
else
  j8 1
else
  j8 1
set_option maxHeartbeats 4000000 in
theorem pX10_read_36 {X : sT} {cs : Nat × Nat} (hX : sX X cX10_read RX10 4 5 111) (hcs : cs.1 ≤ (sR X).cells ∧ cs.2 ≤ (sR X).slots) (l1 : Int32)  : ∀ (n : Nat) (s : Mm × Int32) (r : Mm), qX10_read_36 l1 n s = some r → sW X 4 cs r 48 [some (.ref (sad X 123)), some (.int l1), none, none] [] → sW X 4 cs s.1 36 [some (.ref (sad X 123)), some (.int l1), some (.int s.2), none] [] := by
  refine lp_ind (P := fun (s : Mm × Int32) (r : Mm) => sW X 4 cs r 48 [some (.ref (sad X 123)), some (.int l1), none, none] [] → sW X 4 cs s.1 36 [some (.ref (sad X 123)), some (.int l1), some (.int s.2), none] []) ?_
  intro rec hrec s r h0 hk
  obtain ⟨σ, x2⟩ := s
  have h : gX10_read_36 l1 rec σ x2 = some r := h0
  unfold gX10_read_36 at h
  show sW X 4 cs σ 36 [some (.ref (sad X 123)), some (.int l1), some (.int x2), none] []
  refine s_iload_n hX dX10_read_36 rfl ?_
  refine s_if_ne (tgt := 48) hX dX10_read_37 (by decide) (fun c3 => ?_) (fun c3 => ?_)
  · replace h := (if_neg c3).symm.trans h
    obtain rfl := rt1 h
    refine s_mask [true, true, false, false] ?_
    exact hk
  · replace h := (if_pos c3).symm.trans h
    refine s_aload_n hX dX10_read_40 rfl ?_
    obtain ⟨r1, σ2, hc, h⟩ := bn2_some h
    refine s_callVI _ hX (cX10_readOne_ok (sl X)  hc) SH_123 mv_RX10_410_9 (fun _ => rfl) (by decide) (Nat.le_of_ble_eq_true rfl) hcs dX10_read_41 rfl ?_
    refine s_istore_n hX dX10_read_44 (by decide) ?_
    refine s_goto (tgt := 36) hX dX10_read_45 (by decide) ?_
    refine s_mask [true, true, true, false] ?_
    exact hrec _ _ h hk
set_option maxHeartbeats 4000000 in
theorem pX10_read_104 {X : sT} {cs : Nat × Nat} (hX : sX X cX10_read RX10 4 5 111) (hcs : cs.1 ≤ (sR X).cells ∧ cs.2 ≤ (sR X).slots) (l1 : Int32)  : ∀ (n : Nat) (s : Mm × Int32) (r : Mm), qX10_read_104 l1 n s = some r → sW X 4 cs r 147 [some (.ref (sad X 123)), some (.int l1), none, none] [] → sW X 4 cs s.1 104 [some (.ref (sad X 123)), some (.int l1), none, some (.int s.2)] [] := by
  refine lp_ind (P := fun (s : Mm × Int32) (r : Mm) => sW X 4 cs r 147 [some (.ref (sad X 123)), some (.int l1), none, none] [] → sW X 4 cs s.1 104 [some (.ref (sad X 123)), some (.int l1), none, some (.int s.2)] []) ?_
  intro rec hrec s r h0 hk
  obtain ⟨σ, x3⟩ := s
  have h : gX10_read_104 l1 rec σ x3 = some r := h0
  unfold gX10_read_104 at h
  show sW X 4 cs σ 104 [some (.ref (sad X 123)), some (.int l1), none, some (.int x3)] []
  refine s_iload_n hX dX10_read_104 rfl ?_
  refine s_aload_n hX dX10_read_105 rfl ?_
  refine s_getI hX fo_RX10_166_9 SH_123 rfl dX10_read_106 ?_
  refine s_ic_ge (tgt := 147) hX dX10_read_109 (by decide) (fun c7 => ?_) (fun c7 => ?_)
  · replace h := (if_pos c7).symm.trans h
    obtain rfl := rt1 h
    refine s_mask [true, true, false, false] ?_
    exact hk
  · replace h := (if_neg c7).symm.trans h
    refine s_aload_n hX dX10_read_112 rfl ?_
    refine s_iload_n hX dX10_read_113 rfl ?_
    refine s_aload_n hX dX10_read_114 rfl ?_
    refine s_getR (r := 155) hX fo_RX10_154_9 SH_123 rfl dX10_read_115 ?_
    refine s_iload_n hX dX10_read_118 rfl ?_
    obtain ⟨c1, h⟩ := gd_some h
    refine s_iald hX SH_155 c1 dX10_read_119 ?_
    refine s_aload_n hX dX10_read_120 rfl ?_
    refine s_getR (r := 156) hX fo_RX10_157_9 SH_123 rfl dX10_read_121 ?_
    refine s_iload_n hX dX10_read_124 rfl ?_
    obtain ⟨c2, h⟩ := gd_some h
    refine s_iald hX SH_156 c2 dX10_read_125 ?_
    refine s_aload_n hX dX10_read_126 rfl ?_
    refine s_getR (r := 157) hX fo_RX10_160_9 SH_123 rfl dX10_read_127 ?_
    refine s_iload_n hX dX10_read_130 rfl ?_
    obtain ⟨c3, h⟩ := gd_some h
    refine s_iald hX SH_157 c3 dX10_read_131 ?_
    refine s_aload_n hX dX10_read_132 rfl ?_
    refine s_getR (r := 158) hX fo_RX10_163_9 SH_123 rfl dX10_read_133 ?_
    refine s_iload_n hX dX10_read_136 rfl ?_
    obtain ⟨c4, h⟩ := gd_some h
    refine s_iald hX SH_158 c4 dX10_read_137 ?_
    obtain ⟨σ5, hc, h⟩ := bn_some h
    refine s_callVV _ hX (cX10_lays_ok (sl X)  hc) SH_123 mv_RX10_228_9 (fun _ => rfl) (by decide) (Nat.le_of_ble_eq_true rfl) hcs dX10_read_138 rfl ?_
    obtain ⟨v6, ev6, h⟩ := bd_some h
    refine s_iinc v6 hX dX10_read_141 rfl (by rw [ev6]; rfl) (by decide) ?_
    refine s_goto (tgt := 104) hX dX10_read_144 (by decide) ?_
    refine s_mask [true, true, false, true] ?_
    exact hrec _ _ h hk
set_option maxHeartbeats 4000000 in
theorem cX10_read_ok (l : Launch) {σ : Mm} {l1 : Int32} {r : Int32} {σ' : Mm}  (h : fX10_read σ l1 = some (r, σ')) : cI l yX10_read cX10_read 4 .int 5 111 (fun ad => [.ref (ad 123), .int l1]) σ r σ' := by
  refine c_enterI (fun ad => [some (.ref (ad 123)), some (.int l1), none, none]) (by decide) (fun ad => ⟨by simp [Value.category], Nat.le_of_ble_eq_true rfl⟩) (fun ad => ⟨2, rfl⟩) ?_
  intro X _ hX hret
  have hcs : ((0 : Nat), (0 : Nat)).1 ≤ (sR X).cells ∧ ((0 : Nat), (0 : Nat)).2 ≤ (sR X).slots := ⟨Nat.zero_le _, Nat.zero_le _⟩
  generalize hcs0 : ((0 : Nat), (0 : Nat)) = cs at hcs hret ⊢
  unfold fX10_read at h
  show sW X 4 cs σ 0 [some (.ref (sad X 123)), some (.int l1), none, none] []
  refine s_aload_n hX dX10_read_0 rfl ?_
  refine s_iconst 0 hX dX10_read_1 (by decide) ?_
  obtain ⟨σ1, eσ1, h⟩ := bd_some h
  refine s_putI hX fo_RX10_1_9 SH_123 rfl dX10_read_2 ?_
  refine s_mem σ1 eσ1 ?_
  refine s_aload_n hX dX10_read_5 rfl ?_
  refine s_iload_n hX dX10_read_6 rfl ?_
  obtain ⟨r2, hc, h⟩ := bn_some h
  refine s_callVI _ hX (cX10_isBlock_ok (sl X)  hc) SH_123 mv_RX10_221_9 (fun _ => rfl) (by decide) (Nat.le_of_ble_eq_true rfl) hcs dX10_read_7 rfl ?_
  refine s_if_ne (tgt := 19) hX dX10_read_10 (by decide) (fun c22 => ?_) (fun c22 => ?_)
  · replace h := (if_neg c22).symm.trans h
    refine s_aload_n hX dX10_read_19 rfl ?_
    refine s_iconst 0 hX dX10_read_20 (by decide) ?_
    obtain ⟨σ3, eσ3, h⟩ := bd_some h
    refine s_putI hX fo_RX10_148_9 SH_123 rfl dX10_read_21 ?_
    refine s_mem σ3 eσ3 ?_
    refine s_aload_n hX dX10_read_24 rfl ?_
    refine s_iconst 0 hX dX10_read_25 (by decide) ?_
    obtain ⟨σ4, eσ4, h⟩ := bd_some h
    refine s_putZ hX fo_RX10_151_9 SH_123 rfl (Or.inl rfl) dX10_read_26 ?_
    refine s_mem σ4 eσ4 ?_
    refine s_aload_n hX dX10_read_29 rfl ?_
    refine s_iconst 0 hX dX10_read_30 (by decide) ?_
    obtain ⟨σ5, eσ5, h⟩ := bd_some h
    refine s_putI hX fo_RX10_166_9 SH_123 rfl dX10_read_31 ?_
    refine s_mem σ5 eσ5 ?_
    refine s_iconst 0 hX dX10_read_34 (by decide) ?_
    refine s_istore_n hX dX10_read_35 (by decide) ?_
    obtain ⟨σ6, hc, h⟩ := bn_some h
    refine s_mask [true, true, true, false] ?_
    refine pX10_read_36 hX hcs _ _ _ _ hc ?_
    refine s_aload_n hX dX10_read_48 rfl ?_
    refine s_aload_n hX dX10_read_49 rfl ?_
    refine s_getI hX fo_RX10_151_9 SH_123 rfl dX10_read_50 ?_
    refine jn_use (fun j => ∀ (v7 : Int32), j v7 = some (r, σ') → sW X 4 cs σ6 72 [some (.ref (sad X 123)), some (.int l1), none, none] [.int v7, .ref (sad X 123)]) h ?_ ?_
    · intro v7 h
      obtain ⟨c10, h⟩ := gb_some h
      obtain ⟨σ9, eσ9, h⟩ := bd_some h
      refine s_putZ hX fo_RX10_151_9 SH_123 rfl c10 dX10_read_72 ?_
      refine s_mem σ9 eσ9 ?_
      refine s_aload_n hX dX10_read_75 rfl ?_
      refine s_iconst 0 hX dX10_read_76 (by decide) ?_
      obtain ⟨σ11, eσ11, h⟩ := bd_some h
      refine s_putI hX fo_RX10_145_9 SH_123 rfl dX10_read_77 ?_
      refine s_mem σ11 eσ11 ?_
      refine s_aload_n hX dX10_read_80 rfl ?_
      refine s_getI hX fo_RX10_151_9 SH_123 rfl dX10_read_81 ?_
      refine s_if_eq (tgt := 95) hX dX10_read_84 (by decide) (fun c17 => ?_) (fun c17 => ?_)
      · replace h := (if_pos c17).symm.trans h
        refine s_aload_n hX dX10_read_95 rfl ?_
        refine s_getR (r := 124) hX fo_RX10_23_9 SH_123 rfl dX10_read_96 ?_
        refine s_iload_n hX dX10_read_99 rfl ?_
        refine s_iconst 0 hX dX10_read_100 (by decide) ?_
        obtain ⟨c12, h⟩ := gd_some h
        obtain ⟨σ13, eσ13, h⟩ := bd_some h
        refine s_iast hX SH_124 c12 dX10_read_101 ?_
        refine s_mem σ13 eσ13 ?_
        refine s_iconst 0 hX dX10_read_102 (by decide) ?_
        refine s_istore_n hX dX10_read_103 (by decide) ?_
        obtain ⟨σ14, hc, h⟩ := bn_some h
        refine s_mask [true, true, false, true] ?_
        refine pX10_read_104 hX hcs _ _ _ _ hc ?_
        refine s_aload_n hX dX10_read_147 rfl ?_
        refine s_iload_n hX dX10_read_148 rfl ?_
        refine s_aload_n hX dX10_read_149 rfl ?_
        refine s_getI hX fo_RX10_169_9 SH_123 rfl dX10_read_150 ?_
        refine s_aload_n hX dX10_read_153 rfl ?_
        refine s_getI hX fo_RX10_172_9 SH_123 rfl dX10_read_154 ?_
        refine s_aload_n hX dX10_read_157 rfl ?_
        refine s_getI hX fo_RX10_175_9 SH_123 rfl dX10_read_158 ?_
        refine s_aload_n hX dX10_read_161 rfl ?_
        refine s_getI hX fo_RX10_178_9 SH_123 rfl dX10_read_162 ?_
        obtain ⟨σ15, hc, h⟩ := bn_some h
        refine s_callVV _ hX (cX10_ends_ok (sl X)  hc) SH_123 mv_RX10_232_9 (fun _ => rfl) (by decide) (Nat.le_of_ble_eq_true rfl) hcs dX10_read_165 rfl ?_
        refine s_aload_n hX dX10_read_168 rfl ?_
        refine s_iconst 0 hX dX10_read_169 (by decide) ?_
        obtain ⟨σ16, eσ16, h⟩ := bd_some h
        refine s_putZ hX fo_RX10_57_9 SH_123 rfl (Or.inl rfl) dX10_read_170 ?_
        refine s_mem σ16 eσ16 ?_
        refine s_aload_n hX dX10_read_173 rfl ?_
        refine s_getI hX fo_RX10_166_9 SH_123 rfl dX10_read_174 ?_
        obtain ⟨rfl, rfl⟩ := rt2 h
        exact hret _ _ (nzi _) dX10_read_177
      · replace h := (if_neg c17).symm.trans h
        refine s_bipush (-100) hX dX10_read_87 (by decide) ?_
        refine s_aload_n hX dX10_read_89 rfl ?_
        refine s_getI hX fo_RX10_148_9 SH_123 rfl dX10_read_90 ?_
        refine s_isub hX dX10_read_93 ?_
        obtain ⟨rfl, rfl⟩ := rt2 h
        exact hret _ _ (nzi _) dX10_read_94
    · intro j8 hj8 h
      refine s_if_ne (tgt := 67) hX dX10_read_53 (by decide) (fun c19 => ?_) (fun c19 => ?_)
      · replace h := (if_neg c19).symm.trans h
        refine s_iconst 1 hX dX10_read_67 (by decide) ?_
        refine s_goto (tgt := 72) hX dX10_read_68 (by decide) ?_
        refine s_mask [true, true, false, false] ?_
        exact hj8 _ h
      · replace h := (if_pos c19).symm.trans h
        refine s_aload_n hX dX10_read_56 rfl ?_
        refine s_getI hX fo_RX10_148_9 SH_123 rfl dX10_read_57 ?_
        refine s_aload_n hX dX10_read_60 rfl ?_
        refine s_getI hX fo_RX10_145_9 SH_123 rfl dX10_read_61 ?_
        refine s_ic_ge (tgt := 71) hX dX10_read_64 (by decide) (fun c18 => ?_) (fun c18 => ?_)
        · replace h := (if_pos c18).symm.trans h
          refine s_iconst 0 hX dX10_read_71 (by decide) ?_
          refine s_mask [true, true, false, false] ?_
          exact hj8 _ h
        · replace h := (if_neg c18).symm.trans h
          refine s_iconst 1 hX dX10_read_67 (by decide) ?_
          refine s_goto (tgt := 72) hX dX10_read_68 (by decide) ?_
          refine s_mask [true, true, false, false] ?_
          exact hj8 _ h
  · replace h := (if_pos c22).symm.trans h
    refine s_aload_n hX dX10_read_13 rfl ?_
    refine s_iconst 1 hX dX10_read_14 (by decide) ?_
    obtain ⟨r20, σ21, hc, h⟩ := bn2_some h
    refine s_callVI _ hX (cX10_fails_ok (sl X)  hc) SH_123 mv_RX10_217_9 (fun _ => rfl) (by decide) (Nat.le_of_ble_eq_true rfl) hcs dX10_read_15 rfl ?_
    obtain ⟨rfl, rfl⟩ := rt2 h
    exact hret _ _ (nzi _) dX10_read_18
def gX10_copies_2 (a0 : Nat) (n0 : Nat) (a1 : Nat) (n1 : Nat) (rec : Mm × Int32 → Option (Mm)) (σ : Mm) (x2 : Int32) : Option (Mm) :=
  if (Int32.ofNat n0) ≤ x2 then
  some σ
else
  gd x2 n0 <|
  gd x2 n1 <|
  bd (upm σ a1 (upd (σ a1) x2.toNatClampNeg (σ a0 x2.toNatClampNeg))) fun σ3 =>
  bd (x2 + 1) fun v4 =>
  rec (σ3, v4)
def qX10_copies_2 (a0 : Nat) (n0 : Nat) (a1 : Nat) (n1 : Nat) : Nat → Mm × Int32 → Option (Mm) := lp (fun rec s => gX10_copies_2 a0 n0 a1 n1 rec s.1 s.2)
def fX10_copies (σ : Mm) (a0 : Nat) (n0 : Nat) (a1 : Nat) (n1 : Nat) : Option Mm :=
  (qX10_copies_2 a0 n0 a1 n1 FU (σ, 0)).bind fun σ1 =>
  some σ1
set_option maxHeartbeats 4000000 in
theorem pX10_copies_2 {X : sT} {cs : Nat × Nat} (hX : sX X cX10_copies RX10 3 0 0) (hcs : cs.1 ≤ (sR X).cells ∧ cs.2 ≤ (sR X).slots) (a0 : Nat) (n0 : Nat) (a1 : Nat) (n1 : Nat) (ha0 : SH[a0]? = some (0, 0, n0, [])) (ha1 : SH[a1]? = some (0, 0, n1, [])) : ∀ (n : Nat) (s : Mm × Int32) (r : Mm), qX10_copies_2 a0 n0 a1 n1 n s = some r → sW X 3 cs r 20 [none, none, none] [] → sW X 3 cs s.1 2 [some (.ref (sad X a0)), some (.ref (sad X a1)), some (.int s.2)] [] := by
  refine lp_ind (P := fun (s : Mm × Int32) (r : Mm) => sW X 3 cs r 20 [none, none, none] [] → sW X 3 cs s.1 2 [some (.ref (sad X a0)), some (.ref (sad X a1)), some (.int s.2)] []) ?_
  intro rec hrec s r h0 hk
  obtain ⟨σ, x2⟩ := s
  have h : gX10_copies_2 a0 n0 a1 n1 rec σ x2 = some r := h0
  unfold gX10_copies_2 at h
  show sW X 3 cs σ 2 [some (.ref (sad X a0)), some (.ref (sad X a1)), some (.int x2)] []
  refine s_iload_n hX dX10_copies_2 rfl ?_
  refine s_aload_n hX dX10_copies_3 rfl ?_
  refine s_alen _ hX ha0 (by decide) rfl dX10_copies_4 ?_
  refine s_ic_ge (tgt := 20) hX dX10_copies_5 (by decide) (fun c5 => ?_) (fun c5 => ?_)
  · replace h := (if_pos c5).symm.trans h
    obtain rfl := rt1 h
    refine s_mask [false, false, false] ?_
    exact hk
  · replace h := (if_neg c5).symm.trans h
    refine s_aload_n hX dX10_copies_8 rfl ?_
    refine s_iload_n hX dX10_copies_9 rfl ?_
    refine s_aload_n hX dX10_copies_10 rfl ?_
    refine s_iload_n hX dX10_copies_11 rfl ?_
    obtain ⟨c1, h⟩ := gd_some h
    refine s_iald hX ha0 c1 dX10_copies_12 ?_
    obtain ⟨c2, h⟩ := gd_some h
    obtain ⟨σ3, eσ3, h⟩ := bd_some h
    refine s_iast hX ha1 c2 dX10_copies_13 ?_
    refine s_mem σ3 eσ3 ?_
    obtain ⟨v4, ev4, h⟩ := bd_some h
    refine s_iinc v4 hX dX10_copies_14 rfl (by rw [ev4]; rfl) (by decide) ?_
    refine s_goto (tgt := 2) hX dX10_copies_17 (by decide) ?_
    refine s_mask [true, true, true] ?_
    exact hrec _ _ h hk
set_option maxHeartbeats 4000000 in
theorem cX10_copies_ok (l : Launch) {σ : Mm} {a0 : Nat} {n0 : Nat} {a1 : Nat} {n1 : Nat} {σ' : Mm} (ha0 : SH[a0]? = some (0, 0, n0, [])) (ha1 : SH[a1]? = some (0, 0, n1, [])) (h : fX10_copies σ a0 n0 a1 n1 = some σ') : cV l yX10_copies cX10_copies 3 0 0 (fun ad => [.ref (ad a0), .ref (ad a1)]) σ σ' := by
  refine c_enterV (fun ad => [some (.ref (ad a0)), some (.ref (ad a1)), none]) (by decide) (fun ad => ⟨by simp [Value.category], Nat.le_of_ble_eq_true rfl⟩) (fun ad => ⟨1, rfl⟩) ?_
  intro X _ hX hret
  have hcs : ((0 : Nat), (0 : Nat)).1 ≤ (sR X).cells ∧ ((0 : Nat), (0 : Nat)).2 ≤ (sR X).slots := ⟨Nat.zero_le _, Nat.zero_le _⟩
  generalize hcs0 : ((0 : Nat), (0 : Nat)) = cs at hcs hret ⊢
  unfold fX10_copies at h
  show sW X 3 cs σ 0 [some (.ref (sad X a0)), some (.ref (sad X a1)), none] []
  refine s_iconst 0 hX dX10_copies_0 (by decide) ?_
  refine s_istore_n hX dX10_copies_1 (by decide) ?_
  obtain ⟨σ1, hc, h⟩ := bn_some h
  refine s_mask [true, true, true] ?_
  refine pX10_copies_2 hX hcs _ _ _ _ ha0 ha1 _ _ _ hc ?_
  obtain rfl := rt1 h
  exact hret _ _ dX10_copies_20
def fX10_saveSnapshot (σ : Mm) : Option (Int32 × Mm) :=
  bd (upm σ 123 (upd (σ 123) 2 (σ 123 1))) fun σ1 =>
  (fX10_copies σ1 124 8 159 8).bind fun σ2 =>
  (fX10_copies σ2 125 8 160 8).bind fun σ3 =>
  (fX10_copies σ3 126 8 161 8).bind fun σ4 =>
  (fX10_copies σ4 127 8 162 8).bind fun σ5 =>
  (fX10_copies σ5 128 8 163 8).bind fun σ6 =>
  (fX10_copies σ6 129 8 164 8).bind fun σ7 =>
  (fX10_copies σ7 130 64 165 64).bind fun σ8 =>
  (fX10_copies σ8 131 64 166 64).bind fun σ9 =>
  (fX10_copies σ9 132 64 167 64).bind fun σ10 =>
  (fX10_copies σ10 133 64 168 64).bind fun σ11 =>
  (fX10_copies σ11 134 12 169 12).bind fun σ12 =>
  some (σ12 123 1, σ12)
set_option maxHeartbeats 4000000 in
theorem cX10_saveSnapshot_ok (l : Launch) {σ : Mm} {r : Int32} {σ' : Mm}  (h : fX10_saveSnapshot σ = some (r, σ')) : cI l yX10_saveSnapshot cX10_saveSnapshot 1 .int 1 22 (fun ad => [.ref (ad 123)]) σ r σ' := by
  refine c_enterI (fun ad => [some (.ref (ad 123))]) (by decide) (fun ad => ⟨by simp [Value.category], Nat.le_of_ble_eq_true rfl⟩) (fun ad => ⟨0, rfl⟩) ?_
  intro X _ hX hret
  have hcs : ((0 : Nat), (0 : Nat)).1 ≤ (sR X).cells ∧ ((0 : Nat), (0 : Nat)).2 ≤ (sR X).slots := ⟨Nat.zero_le _, Nat.zero_le _⟩
  generalize hcs0 : ((0 : Nat), (0 : Nat)) = cs at hcs hret ⊢
  unfold fX10_saveSnapshot at h
  show sW X 1 cs σ 0 [some (.ref (sad X 123))] []
  refine s_aload_n hX dX10_saveSnapshot_0 rfl ?_
  refine s_aload_n hX dX10_saveSnapshot_1 rfl ?_
  refine s_getI hX fo_RX10_17_9 SH_123 rfl dX10_saveSnapshot_2 ?_
  obtain ⟨σ1, eσ1, h⟩ := bd_some h
  refine s_putI hX fo_RX10_20_9 SH_123 rfl dX10_saveSnapshot_5 ?_
  refine s_mem σ1 eσ1 ?_
  refine s_aload_n hX dX10_saveSnapshot_8 rfl ?_
  refine s_getR (r := 124) hX fo_RX10_23_9 SH_123 rfl dX10_saveSnapshot_9 ?_
  refine s_aload_n hX dX10_saveSnapshot_12 rfl ?_
  refine s_getR (r := 159) hX fo_RX10_181_9 SH_123 rfl dX10_saveSnapshot_13 ?_
  obtain ⟨σ2, hc, h⟩ := bn_some h
  refine s_callSV _ hX (cX10_copies_ok (sl X) SH_124 SH_159 hc) ms_RX10_414 (fun _ => rfl) (by decide) (Nat.le_of_ble_eq_true rfl) hcs dX10_saveSnapshot_16 rfl ?_
  refine s_aload_n hX dX10_saveSnapshot_19 rfl ?_
  refine s_getR (r := 125) hX fo_RX10_27_9 SH_123 rfl dX10_saveSnapshot_20 ?_
  refine s_aload_n hX dX10_saveSnapshot_23 rfl ?_
  refine s_getR (r := 160) hX fo_RX10_184_9 SH_123 rfl dX10_saveSnapshot_24 ?_
  obtain ⟨σ3, hc, h⟩ := bn_some h
  refine s_callSV _ hX (cX10_copies_ok (sl X) SH_125 SH_160 hc) ms_RX10_414 (fun _ => rfl) (by decide) (Nat.le_of_ble_eq_true rfl) hcs dX10_saveSnapshot_27 rfl ?_
  refine s_aload_n hX dX10_saveSnapshot_30 rfl ?_
  refine s_getR (r := 126) hX fo_RX10_30_9 SH_123 rfl dX10_saveSnapshot_31 ?_
  refine s_aload_n hX dX10_saveSnapshot_34 rfl ?_
  refine s_getR (r := 161) hX fo_RX10_187_9 SH_123 rfl dX10_saveSnapshot_35 ?_
  obtain ⟨σ4, hc, h⟩ := bn_some h
  refine s_callSV _ hX (cX10_copies_ok (sl X) SH_126 SH_161 hc) ms_RX10_414 (fun _ => rfl) (by decide) (Nat.le_of_ble_eq_true rfl) hcs dX10_saveSnapshot_38 rfl ?_
  refine s_aload_n hX dX10_saveSnapshot_41 rfl ?_
  refine s_getR (r := 127) hX fo_RX10_33_9 SH_123 rfl dX10_saveSnapshot_42 ?_
  refine s_aload_n hX dX10_saveSnapshot_45 rfl ?_
  refine s_getR (r := 162) hX fo_RX10_190_9 SH_123 rfl dX10_saveSnapshot_46 ?_
  obtain ⟨σ5, hc, h⟩ := bn_some h
  refine s_callSV _ hX (cX10_copies_ok (sl X) SH_127 SH_162 hc) ms_RX10_414 (fun _ => rfl) (by decide) (Nat.le_of_ble_eq_true rfl) hcs dX10_saveSnapshot_49 rfl ?_
  refine s_aload_n hX dX10_saveSnapshot_52 rfl ?_
  refine s_getR (r := 128) hX fo_RX10_36_9 SH_123 rfl dX10_saveSnapshot_53 ?_
  refine s_aload_n hX dX10_saveSnapshot_56 rfl ?_
  refine s_getR (r := 163) hX fo_RX10_193_9 SH_123 rfl dX10_saveSnapshot_57 ?_
  obtain ⟨σ6, hc, h⟩ := bn_some h
  refine s_callSV _ hX (cX10_copies_ok (sl X) SH_128 SH_163 hc) ms_RX10_414 (fun _ => rfl) (by decide) (Nat.le_of_ble_eq_true rfl) hcs dX10_saveSnapshot_60 rfl ?_
  refine s_aload_n hX dX10_saveSnapshot_63 rfl ?_
  refine s_getR (r := 129) hX fo_RX10_39_9 SH_123 rfl dX10_saveSnapshot_64 ?_
  refine s_aload_n hX dX10_saveSnapshot_67 rfl ?_
  refine s_getR (r := 164) hX fo_RX10_196_9 SH_123 rfl dX10_saveSnapshot_68 ?_
  obtain ⟨σ7, hc, h⟩ := bn_some h
  refine s_callSV _ hX (cX10_copies_ok (sl X) SH_129 SH_164 hc) ms_RX10_414 (fun _ => rfl) (by decide) (Nat.le_of_ble_eq_true rfl) hcs dX10_saveSnapshot_71 rfl ?_
  refine s_aload_n hX dX10_saveSnapshot_74 rfl ?_
  refine s_getR (r := 130) hX fo_RX10_42_9 SH_123 rfl dX10_saveSnapshot_75 ?_
  refine s_aload_n hX dX10_saveSnapshot_78 rfl ?_
  refine s_getR (r := 165) hX fo_RX10_199_9 SH_123 rfl dX10_saveSnapshot_79 ?_
  obtain ⟨σ8, hc, h⟩ := bn_some h
  refine s_callSV _ hX (cX10_copies_ok (sl X) SH_130 SH_165 hc) ms_RX10_414 (fun _ => rfl) (by decide) (Nat.le_of_ble_eq_true rfl) hcs dX10_saveSnapshot_82 rfl ?_
  refine s_aload_n hX dX10_saveSnapshot_85 rfl ?_
  refine s_getR (r := 131) hX fo_RX10_45_9 SH_123 rfl dX10_saveSnapshot_86 ?_
  refine s_aload_n hX dX10_saveSnapshot_89 rfl ?_
  refine s_getR (r := 166) hX fo_RX10_202_9 SH_123 rfl dX10_saveSnapshot_90 ?_
  obtain ⟨σ9, hc, h⟩ := bn_some h
  refine s_callSV _ hX (cX10_copies_ok (sl X) SH_131 SH_166 hc) ms_RX10_414 (fun _ => rfl) (by decide) (Nat.le_of_ble_eq_true rfl) hcs dX10_saveSnapshot_93 rfl ?_
  refine s_aload_n hX dX10_saveSnapshot_96 rfl ?_
  refine s_getR (r := 132) hX fo_RX10_48_9 SH_123 rfl dX10_saveSnapshot_97 ?_
  refine s_aload_n hX dX10_saveSnapshot_100 rfl ?_
  refine s_getR (r := 167) hX fo_RX10_205_9 SH_123 rfl dX10_saveSnapshot_101 ?_
  obtain ⟨σ10, hc, h⟩ := bn_some h
  refine s_callSV _ hX (cX10_copies_ok (sl X) SH_132 SH_167 hc) ms_RX10_414 (fun _ => rfl) (by decide) (Nat.le_of_ble_eq_true rfl) hcs dX10_saveSnapshot_104 rfl ?_
  refine s_aload_n hX dX10_saveSnapshot_107 rfl ?_
  refine s_getR (r := 133) hX fo_RX10_51_9 SH_123 rfl dX10_saveSnapshot_108 ?_
  refine s_aload_n hX dX10_saveSnapshot_111 rfl ?_
  refine s_getR (r := 168) hX fo_RX10_208_9 SH_123 rfl dX10_saveSnapshot_112 ?_
  obtain ⟨σ11, hc, h⟩ := bn_some h
  refine s_callSV _ hX (cX10_copies_ok (sl X) SH_133 SH_168 hc) ms_RX10_414 (fun _ => rfl) (by decide) (Nat.le_of_ble_eq_true rfl) hcs dX10_saveSnapshot_115 rfl ?_
  refine s_aload_n hX dX10_saveSnapshot_118 rfl ?_
  refine s_getR (r := 134) hX fo_RX10_54_9 SH_123 rfl dX10_saveSnapshot_119 ?_
  refine s_aload_n hX dX10_saveSnapshot_122 rfl ?_
  refine s_getR (r := 169) hX fo_RX10_211_9 SH_123 rfl dX10_saveSnapshot_123 ?_
  obtain ⟨σ12, hc, h⟩ := bn_some h
  refine s_callSV _ hX (cX10_copies_ok (sl X) SH_134 SH_169 hc) ms_RX10_414 (fun _ => rfl) (by decide) (Nat.le_of_ble_eq_true rfl) hcs dX10_saveSnapshot_126 rfl ?_
  refine s_aload_n hX dX10_saveSnapshot_129 rfl ?_
  refine s_getI hX fo_RX10_17_9 SH_123 rfl dX10_saveSnapshot_130 ?_
  obtain ⟨rfl, rfl⟩ := rt2 h
  exact hret _ _ (nzi _) dX10_saveSnapshot_133
def fX10_restoreSnapshot (σ : Mm) : Option (Int32 × Mm) :=
  bd (upm σ 123 (upd (σ 123) 0 0)) fun σ1 =>
  if (σ1 123 2) = 0 then
  bn2 (fX10_fails σ1 1) fun r15 σ16 =>
  some (r15, σ16)
else
  bd (upm σ1 123 (upd (σ1 123) 1 (σ1 123 2))) fun σ2 =>
  (fX10_copies σ2 159 8 124 8).bind fun σ3 =>
  (fX10_copies σ3 160 8 125 8).bind fun σ4 =>
  (fX10_copies σ4 161 8 126 8).bind fun σ5 =>
  (fX10_copies σ5 162 8 127 8).bind fun σ6 =>
  (fX10_copies σ6 163 8 128 8).bind fun σ7 =>
  (fX10_copies σ7 164 8 129 8).bind fun σ8 =>
  (fX10_copies σ8 165 64 130 64).bind fun σ9 =>
  (fX10_copies σ9 166 64 131 64).bind fun σ10 =>
  (fX10_copies σ10 167 64 132 64).bind fun σ11 =>
  (fX10_copies σ11 168 64 133 64).bind fun σ12 =>
  (fX10_copies σ12 169 12 134 12).bind fun σ13 =>
  bd (upm σ13 123 (upd (σ13 123) 14 0)) fun σ14 =>
  some (σ14 123 1, σ14)
set_option maxHeartbeats 4000000 in
theorem cX10_restoreSnapshot_ok (l : Launch) {σ : Mm} {r : Int32} {σ' : Mm}  (h : fX10_restoreSnapshot σ = some (r, σ')) : cI l yX10_restoreSnapshot cX10_restoreSnapshot 1 .int 1 22 (fun ad => [.ref (ad 123)]) σ r σ' := by
  refine c_enterI (fun ad => [some (.ref (ad 123))]) (by decide) (fun ad => ⟨by simp [Value.category], Nat.le_of_ble_eq_true rfl⟩) (fun ad => ⟨0, rfl⟩) ?_
  intro X _ hX hret
  have hcs : ((0 : Nat), (0 : Nat)).1 ≤ (sR X).cells ∧ ((0 : Nat), (0 : Nat)).2 ≤ (sR X).slots := ⟨Nat.zero_le _, Nat.zero_le _⟩
  generalize hcs0 : ((0 : Nat), (0 : Nat)) = cs at hcs hret ⊢
  unfold fX10_restoreSnapshot at h
  show sW X 1 cs σ 0 [some (.ref (sad X 123))] []
  refine s_aload_n hX dX10_restoreSnapshot_0 rfl ?_
  refine s_iconst 0 hX dX10_restoreSnapshot_1 (by decide) ?_
  obtain ⟨σ1, eσ1, h⟩ := bd_some h
  refine s_putI hX fo_RX10_1_9 SH_123 rfl dX10_restoreSnapshot_2 ?_
  refine s_mem σ1 eσ1 ?_
  refine s_aload_n hX dX10_restoreSnapshot_5 rfl ?_
  refine s_getI hX fo_RX10_20_9 SH_123 rfl dX10_restoreSnapshot_6 ?_
  refine s_if_ne (tgt := 18) hX dX10_restoreSnapshot_9 (by decide) (fun c17 => ?_) (fun c17 => ?_)
  · replace h := (if_neg c17).symm.trans h
    refine s_aload_n hX dX10_restoreSnapshot_18 rfl ?_
    refine s_aload_n hX dX10_restoreSnapshot_19 rfl ?_
    refine s_getI hX fo_RX10_20_9 SH_123 rfl dX10_restoreSnapshot_20 ?_
    obtain ⟨σ2, eσ2, h⟩ := bd_some h
    refine s_putI hX fo_RX10_17_9 SH_123 rfl dX10_restoreSnapshot_23 ?_
    refine s_mem σ2 eσ2 ?_
    refine s_aload_n hX dX10_restoreSnapshot_26 rfl ?_
    refine s_getR (r := 159) hX fo_RX10_181_9 SH_123 rfl dX10_restoreSnapshot_27 ?_
    refine s_aload_n hX dX10_restoreSnapshot_30 rfl ?_
    refine s_getR (r := 124) hX fo_RX10_23_9 SH_123 rfl dX10_restoreSnapshot_31 ?_
    obtain ⟨σ3, hc, h⟩ := bn_some h
    refine s_callSV _ hX (cX10_copies_ok (sl X) SH_159 SH_124 hc) ms_RX10_414 (fun _ => rfl) (by decide) (Nat.le_of_ble_eq_true rfl) hcs dX10_restoreSnapshot_34 rfl ?_
    refine s_aload_n hX dX10_restoreSnapshot_37 rfl ?_
    refine s_getR (r := 160) hX fo_RX10_184_9 SH_123 rfl dX10_restoreSnapshot_38 ?_
    refine s_aload_n hX dX10_restoreSnapshot_41 rfl ?_
    refine s_getR (r := 125) hX fo_RX10_27_9 SH_123 rfl dX10_restoreSnapshot_42 ?_
    obtain ⟨σ4, hc, h⟩ := bn_some h
    refine s_callSV _ hX (cX10_copies_ok (sl X) SH_160 SH_125 hc) ms_RX10_414 (fun _ => rfl) (by decide) (Nat.le_of_ble_eq_true rfl) hcs dX10_restoreSnapshot_45 rfl ?_
    refine s_aload_n hX dX10_restoreSnapshot_48 rfl ?_
    refine s_getR (r := 161) hX fo_RX10_187_9 SH_123 rfl dX10_restoreSnapshot_49 ?_
    refine s_aload_n hX dX10_restoreSnapshot_52 rfl ?_
    refine s_getR (r := 126) hX fo_RX10_30_9 SH_123 rfl dX10_restoreSnapshot_53 ?_
    obtain ⟨σ5, hc, h⟩ := bn_some h
    refine s_callSV _ hX (cX10_copies_ok (sl X) SH_161 SH_126 hc) ms_RX10_414 (fun _ => rfl) (by decide) (Nat.le_of_ble_eq_true rfl) hcs dX10_restoreSnapshot_56 rfl ?_
    refine s_aload_n hX dX10_restoreSnapshot_59 rfl ?_
    refine s_getR (r := 162) hX fo_RX10_190_9 SH_123 rfl dX10_restoreSnapshot_60 ?_
    refine s_aload_n hX dX10_restoreSnapshot_63 rfl ?_
    refine s_getR (r := 127) hX fo_RX10_33_9 SH_123 rfl dX10_restoreSnapshot_64 ?_
    obtain ⟨σ6, hc, h⟩ := bn_some h
    refine s_callSV _ hX (cX10_copies_ok (sl X) SH_162 SH_127 hc) ms_RX10_414 (fun _ => rfl) (by decide) (Nat.le_of_ble_eq_true rfl) hcs dX10_restoreSnapshot_67 rfl ?_
    refine s_aload_n hX dX10_restoreSnapshot_70 rfl ?_
    refine s_getR (r := 163) hX fo_RX10_193_9 SH_123 rfl dX10_restoreSnapshot_71 ?_
    refine s_aload_n hX dX10_restoreSnapshot_74 rfl ?_
    refine s_getR (r := 128) hX fo_RX10_36_9 SH_123 rfl dX10_restoreSnapshot_75 ?_
    obtain ⟨σ7, hc, h⟩ := bn_some h
    refine s_callSV _ hX (cX10_copies_ok (sl X) SH_163 SH_128 hc) ms_RX10_414 (fun _ => rfl) (by decide) (Nat.le_of_ble_eq_true rfl) hcs dX10_restoreSnapshot_78 rfl ?_
    refine s_aload_n hX dX10_restoreSnapshot_81 rfl ?_
    refine s_getR (r := 164) hX fo_RX10_196_9 SH_123 rfl dX10_restoreSnapshot_82 ?_
    refine s_aload_n hX dX10_restoreSnapshot_85 rfl ?_
    refine s_getR (r := 129) hX fo_RX10_39_9 SH_123 rfl dX10_restoreSnapshot_86 ?_
    obtain ⟨σ8, hc, h⟩ := bn_some h
    refine s_callSV _ hX (cX10_copies_ok (sl X) SH_164 SH_129 hc) ms_RX10_414 (fun _ => rfl) (by decide) (Nat.le_of_ble_eq_true rfl) hcs dX10_restoreSnapshot_89 rfl ?_
    refine s_aload_n hX dX10_restoreSnapshot_92 rfl ?_
    refine s_getR (r := 165) hX fo_RX10_199_9 SH_123 rfl dX10_restoreSnapshot_93 ?_
    refine s_aload_n hX dX10_restoreSnapshot_96 rfl ?_
    refine s_getR (r := 130) hX fo_RX10_42_9 SH_123 rfl dX10_restoreSnapshot_97 ?_
    obtain ⟨σ9, hc, h⟩ := bn_some h
    refine s_callSV _ hX (cX10_copies_ok (sl X) SH_165 SH_130 hc) ms_RX10_414 (fun _ => rfl) (by decide) (Nat.le_of_ble_eq_true rfl) hcs dX10_restoreSnapshot_100 rfl ?_
    refine s_aload_n hX dX10_restoreSnapshot_103 rfl ?_
    refine s_getR (r := 166) hX fo_RX10_202_9 SH_123 rfl dX10_restoreSnapshot_104 ?_
    refine s_aload_n hX dX10_restoreSnapshot_107 rfl ?_
    refine s_getR (r := 131) hX fo_RX10_45_9 SH_123 rfl dX10_restoreSnapshot_108 ?_
    obtain ⟨σ10, hc, h⟩ := bn_some h
    refine s_callSV _ hX (cX10_copies_ok (sl X) SH_166 SH_131 hc) ms_RX10_414 (fun _ => rfl) (by decide) (Nat.le_of_ble_eq_true rfl) hcs dX10_restoreSnapshot_111 rfl ?_
    refine s_aload_n hX dX10_restoreSnapshot_114 rfl ?_
    refine s_getR (r := 167) hX fo_RX10_205_9 SH_123 rfl dX10_restoreSnapshot_115 ?_
    refine s_aload_n hX dX10_restoreSnapshot_118 rfl ?_
    refine s_getR (r := 132) hX fo_RX10_48_9 SH_123 rfl dX10_restoreSnapshot_119 ?_
    obtain ⟨σ11, hc, h⟩ := bn_some h
    refine s_callSV _ hX (cX10_copies_ok (sl X) SH_167 SH_132 hc) ms_RX10_414 (fun _ => rfl) (by decide) (Nat.le_of_ble_eq_true rfl) hcs dX10_restoreSnapshot_122 rfl ?_
    refine s_aload_n hX dX10_restoreSnapshot_125 rfl ?_
    refine s_getR (r := 168) hX fo_RX10_208_9 SH_123 rfl dX10_restoreSnapshot_126 ?_
    refine s_aload_n hX dX10_restoreSnapshot_129 rfl ?_
    refine s_getR (r := 133) hX fo_RX10_51_9 SH_123 rfl dX10_restoreSnapshot_130 ?_
    obtain ⟨σ12, hc, h⟩ := bn_some h
    refine s_callSV _ hX (cX10_copies_ok (sl X) SH_168 SH_133 hc) ms_RX10_414 (fun _ => rfl) (by decide) (Nat.le_of_ble_eq_true rfl) hcs dX10_restoreSnapshot_133 rfl ?_
    refine s_aload_n hX dX10_restoreSnapshot_136 rfl ?_
    refine s_getR (r := 169) hX fo_RX10_211_9 SH_123 rfl dX10_restoreSnapshot_137 ?_
    refine s_aload_n hX dX10_restoreSnapshot_140 rfl ?_
    refine s_getR (r := 134) hX fo_RX10_54_9 SH_123 rfl dX10_restoreSnapshot_141 ?_
    obtain ⟨σ13, hc, h⟩ := bn_some h
    refine s_callSV _ hX (cX10_copies_ok (sl X) SH_169 SH_134 hc) ms_RX10_414 (fun _ => rfl) (by decide) (Nat.le_of_ble_eq_true rfl) hcs dX10_restoreSnapshot_144 rfl ?_
    refine s_aload_n hX dX10_restoreSnapshot_147 rfl ?_
    refine s_iconst 0 hX dX10_restoreSnapshot_148 (by decide) ?_
    obtain ⟨σ14, eσ14, h⟩ := bd_some h
    refine s_putZ hX fo_RX10_57_9 SH_123 rfl (Or.inl rfl) dX10_restoreSnapshot_149 ?_
    refine s_mem σ14 eσ14 ?_
    refine s_aload_n hX dX10_restoreSnapshot_152 rfl ?_
    refine s_getI hX fo_RX10_17_9 SH_123 rfl dX10_restoreSnapshot_153 ?_
    obtain ⟨rfl, rfl⟩ := rt2 h
    exact hret _ _ (nzi _) dX10_restoreSnapshot_156
  · replace h := (if_pos c17).symm.trans h
    refine s_aload_n hX dX10_restoreSnapshot_12 rfl ?_
    refine s_iconst 1 hX dX10_restoreSnapshot_13 (by decide) ?_
    obtain ⟨r15, σ16, hc, h⟩ := bn2_some h
    refine s_callVI _ hX (cX10_fails_ok (sl X)  hc) SH_123 mv_RX10_217_9 (fun _ => rfl) (by decide) (Nat.le_of_ble_eq_true rfl) hcs dX10_restoreSnapshot_14 rfl ?_
    obtain ⟨rfl, rfl⟩ := rt2 h
    exact hret _ _ (nzi _) dX10_restoreSnapshot_17
def gJ7_fill_53178_5 (a0 : Nat) (n0 : Nat) (l1 : Int32) (l3 : Int32) (rec : Mm × Int32 → Option (Mm)) (σ : Mm) (x2 : Int32) : Option (Mm) :=
  if l3 ≤ x2 then
  some σ
else
  gd x2 n0 <|
  bd (upm σ a0 (upd (σ a0) x2.toNatClampNeg l1)) fun σ2 =>
  bd (x2 + 1) fun v3 =>
  rec (σ2, v3)
def qJ7_fill_53178_5 (a0 : Nat) (n0 : Nat) (l1 : Int32) (l3 : Int32) : Nat → Mm × Int32 → Option (Mm) := lp (fun rec s => gJ7_fill_53178_5 a0 n0 l1 l3 rec s.1 s.2)
def fJ7_fill_53178 (σ : Mm) (a0 : Nat) (n0 : Nat) (l1 : Int32) : Option Mm :=
  bd (Int32.ofNat n0) fun v1 =>
  (qJ7_fill_53178_5 a0 n0 l1 v1 FU (σ, 0)).bind fun σ2 =>
  some σ2
set_option maxHeartbeats 4000000 in
theorem pJ7_fill_53178_5 {X : sT} {cs : Nat × Nat} (hX : sX X cJ7_fill_53178 RJ7 4 0 0) (hcs : cs.1 ≤ (sR X).cells ∧ cs.2 ≤ (sR X).slots) (a0 : Nat) (n0 : Nat) (l1 : Int32) (l3 : Int32) (ha0 : SH[a0]? = some (0, 0, n0, [])) : ∀ (n : Nat) (s : Mm × Int32) (r : Mm), qJ7_fill_53178_5 a0 n0 l1 l3 n s = some r → sW X 4 cs r 20 [none, none, none, none] [] → sW X 4 cs s.1 5 [some (.ref (sad X a0)), some (.int l1), some (.int s.2), some (.int l3)] [] := by
  refine lp_ind (P := fun (s : Mm × Int32) (r : Mm) => sW X 4 cs r 20 [none, none, none, none] [] → sW X 4 cs s.1 5 [some (.ref (sad X a0)), some (.int l1), some (.int s.2), some (.int l3)] []) ?_
  intro rec hrec s r h0 hk
  obtain ⟨σ, x2⟩ := s
  have h : gJ7_fill_53178_5 a0 n0 l1 l3 rec σ x2 = some r := h0
  unfold gJ7_fill_53178_5 at h
  show sW X 4 cs σ 5 [some (.ref (sad X a0)), some (.int l1), some (.int x2), some (.int l3)] []
  refine s_iload_n hX dJ7_fill_53178_5 rfl ?_
  refine s_iload_n hX dJ7_fill_53178_6 rfl ?_
  refine s_ic_ge (tgt := 20) hX dJ7_fill_53178_7 (by decide) (fun c4 => ?_) (fun c4 => ?_)
  · replace h := (if_pos c4).symm.trans h
    obtain rfl := rt1 h
    refine s_mask [false, false, false, false] ?_
    exact hk
  · replace h := (if_neg c4).symm.trans h
    refine s_aload_n hX dJ7_fill_53178_10 rfl ?_
    refine s_iload_n hX dJ7_fill_53178_11 rfl ?_
    refine s_iload_n hX dJ7_fill_53178_12 rfl ?_
    obtain ⟨c1, h⟩ := gd_some h
    obtain ⟨σ2, eσ2, h⟩ := bd_some h
    refine s_iast hX ha0 c1 dJ7_fill_53178_13 ?_
    refine s_mem σ2 eσ2 ?_
    obtain ⟨v3, ev3, h⟩ := bd_some h
    refine s_iinc v3 hX dJ7_fill_53178_14 rfl (by rw [ev3]; rfl) (by decide) ?_
    refine s_goto (tgt := 5) hX dJ7_fill_53178_17 (by decide) ?_
    refine s_mask [true, true, true, true] ?_
    exact hrec _ _ h hk
set_option maxHeartbeats 4000000 in
theorem cJ7_fill_53178_ok (l : Launch) {σ : Mm} {a0 : Nat} {n0 : Nat} {l1 : Int32} {σ' : Mm} (ha0 : SH[a0]? = some (0, 0, n0, [])) (h : fJ7_fill_53178 σ a0 n0 l1 = some σ') : cV l yJ7_fill_53178 cJ7_fill_53178 4 0 0 (fun ad => [.ref (ad a0), .int l1]) σ σ' := by
  refine c_enterV (fun ad => [some (.ref (ad a0)), some (.int l1), none, none]) (by decide) (fun ad => ⟨by simp [Value.category], Nat.le_of_ble_eq_true rfl⟩) (fun ad => ⟨2, rfl⟩) ?_
  intro X _ hX hret
  have hcs : ((0 : Nat), (0 : Nat)).1 ≤ (sR X).cells ∧ ((0 : Nat), (0 : Nat)).2 ≤ (sR X).slots := ⟨Nat.zero_le _, Nat.zero_le _⟩
  generalize hcs0 : ((0 : Nat), (0 : Nat)) = cs at hcs hret ⊢
  unfold fJ7_fill_53178 at h
  show sW X 4 cs σ 0 [some (.ref (sad X a0)), some (.int l1), none, none] []
  refine s_iconst 0 hX dJ7_fill_53178_0 (by decide) ?_
  refine s_istore_n hX dJ7_fill_53178_1 (by decide) ?_
  refine s_aload_n hX dJ7_fill_53178_2 rfl ?_
  refine s_alen _ hX ha0 (by decide) rfl dJ7_fill_53178_3 ?_
  obtain ⟨v1, ev1, h⟩ := bd_some h
  refine s_topi v1 ev1 ?_
  refine s_istore_n hX dJ7_fill_53178_4 (by decide) ?_
  obtain ⟨σ2, hc, h⟩ := bn_some h
  refine s_mask [true, true, true, true] ?_
  refine pJ7_fill_53178_5 hX hcs _ _ _ _ ha0 _ _ _ hc ?_
  obtain rfl := rt1 h
  exact hret _ _ dJ7_fill_53178_20
