def fX9_clear (σ : Mm) (l1 : Int32) : Option Rx :=
  if l1 < 1 then
  some (1, 0, σ)
else
  if l1 ≤ 8 then
  bd (σ 1 2) fun v1 =>
  (fX7_begin_p σ l1).bind fun σ2 =>
  (fX9_programChanged σ2).bind fun σ3 =>
  some (0, v1, σ3)
else
  some (1, 0, σ)
set_option maxHeartbeats 4000000 in
theorem cX9_clear_ok (l : Launch) {σ : Mm} {l1 : Int32} {r : Int32} {σ' : Mm}  (h : fX9_clear σ l1 = some (0, r, σ')) : cI l yX9_clear cX9_clear 3 .int 8 120 (fun ad => [.ref (ad 0), .int l1]) σ r σ' := by
  refine c_enterI (fun ad => [some (.ref (ad 0)), some (.int l1), none]) (by decide) (fun ad => ⟨by simp [Value.category], Nat.le_of_ble_eq_true rfl⟩) (fun ad => ⟨1, rfl⟩) ?_
  intro X _ hX hret
  have hcs : ((0 : Nat), (0 : Nat)).1 ≤ (sR X).cells ∧ ((0 : Nat), (0 : Nat)).2 ≤ (sR X).slots := ⟨Nat.zero_le _, Nat.zero_le _⟩
  generalize hcs0 : ((0 : Nat), (0 : Nat)) = cs at hcs hret ⊢
  unfold fX9_clear at h
  show sW X 3 cs σ 0 [some (.ref (sad X 0)), some (.int l1), none] []
  refine s_iload_n hX dX9_clear_0 rfl ?_
  refine s_iconst 1 hX dX9_clear_1 (by decide) ?_
  refine s_ic_lt (tgt := 11) hX dX9_clear_2 (by decide) (fun c5 => ?_) (fun c5 => ?_)
  · replace h := (if_pos c5).symm.trans h
    exact absurd (rt3 h).1 (by decide)
  · replace h := (if_neg c5).symm.trans h
    refine s_iload_n hX dX9_clear_5 rfl ?_
    refine s_bipush 8 hX dX9_clear_6 (by decide) ?_
    refine s_ic_le (tgt := 21) hX dX9_clear_8 (by decide) (fun c4 => ?_) (fun c4 => ?_)
    · replace h := (if_pos c4).symm.trans h
      refine s_aload_n hX dX9_clear_21 rfl ?_
      refine s_getR (r := 1) hX fo_RX9_25_8 SH_0 rfl dX9_clear_22 ?_
      refine s_getI hX fo_RX9_83_6 SH_1 rfl dX9_clear_25 ?_
      obtain ⟨v1, ev1, h⟩ := bd_some h
      refine s_topi v1 ev1 ?_
      refine s_istore_n hX dX9_clear_28 (by decide) ?_
      refine s_aload_n hX dX9_clear_29 rfl ?_
      refine s_getR (r := 1) hX fo_RX9_25_8 SH_0 rfl dX9_clear_30 ?_
      refine s_iload_n hX dX9_clear_33 rfl ?_
      obtain ⟨σ2, hc, h⟩ := bn_some h
      refine s_callVV _ hX (cX7_begin_p_ok (sl X)  hc) SH_1 mv_RX9_87_6 (fun _ => rfl) (by decide) (Nat.le_of_ble_eq_true rfl) hcs dX9_clear_34 rfl ?_
      refine s_aload_n hX dX9_clear_37 rfl ?_
      obtain ⟨σ3, hc, h⟩ := bn_some h
      refine s_callVV _ hX (cX9_programChanged_ok (sl X)  hc) SH_0 mv_RX9_91_8 (fun _ => rfl) (by decide) (Nat.le_of_ble_eq_true rfl) hcs dX9_clear_38 rfl ?_
      refine s_iload_n hX dX9_clear_41 rfl ?_
      obtain ⟨-, rfl, rfl⟩ := rt3 h
      exact hret _ _ (nzi _) dX9_clear_42
    · replace h := (if_neg c4).symm.trans h
      exact absurd (rt3 h).1 (by decide)
set_option maxHeartbeats 4000000 in
theorem cX9_clear_th (l : Launch) (hl : l.stackTraces = false) {σ : Mm} {l1 : Int32} {e : Nat} {r : Int32} {σ' : Mm}  (he : e ≠ 0) (h : fX9_clear σ l1 = some (e, r, σ')) : cTI l yX9_clear cX9_clear 3 .int 8 120 (fun ad => [.ref (ad 0), .int l1]) σ e σ' := by
  refine c_enterTI (fun ad => [some (.ref (ad 0)), some (.int l1), none]) hl (by decide) rfl (by decide) (by decide) (fun ad => ⟨by simp [Value.category], Nat.le_of_ble_eq_true rfl⟩) (fun ad => ⟨1, rfl⟩) ?_
  intro X hsl hX hct hthr hpr
  have hlX : (sl X).stackTraces = false := by rw [hsl]; exact hl
  have hcs : ((0 : Nat), (0 : Nat)).1 ≤ (sR X).cells ∧ ((0 : Nat), (0 : Nat)).2 ≤ (sR X).slots := ⟨Nat.zero_le _, Nat.zero_le _⟩
  replace hct : ((0 : Nat), (0 : Nat)).1 + 1 ≤ (sR X).cells ∧ ((0 : Nat), (0 : Nat)).2 + 6 ≤ (sR X).slots := hct
  generalize hcs0 : ((0 : Nat), (0 : Nat)) = cs at hcs hct hthr hpr ⊢
  unfold fX9_clear at h
  show sW X 3 cs σ 0 [some (.ref (sad X 0)), some (.int l1), none] []
  refine s_iload_n hX dX9_clear_0 rfl ?_
  refine s_iconst 1 hX dX9_clear_1 (by decide) ?_
  refine s_ic_lt (tgt := 11) hX dX9_clear_2 (by decide) (fun c5 => ?_) (fun c5 => ?_)
  · replace h := (if_pos c5).symm.trans h
    obtain ⟨rfl, -, rfl⟩ := rt3 h
    exact hthr _ _ _ 76 78 80 _ xw_1_76_80 (List.mem_of_getElem? (i := 0) rfl) dX9_clear_11 dX9_clear_14 (Or.inl ⟨dX9_clear_15, dX9_clear_17, dX9_clear_20⟩) (Nat.le_of_ble_eq_true rfl)
  · replace h := (if_neg c5).symm.trans h
    refine s_iload_n hX dX9_clear_5 rfl ?_
    refine s_bipush 8 hX dX9_clear_6 (by decide) ?_
    refine s_ic_le (tgt := 21) hX dX9_clear_8 (by decide) (fun c4 => ?_) (fun c4 => ?_)
    · replace h := (if_pos c4).symm.trans h
      refine s_aload_n hX dX9_clear_21 rfl ?_
      refine s_getR (r := 1) hX fo_RX9_25_8 SH_0 rfl dX9_clear_22 ?_
      refine s_getI hX fo_RX9_83_6 SH_1 rfl dX9_clear_25 ?_
      obtain ⟨v1, ev1, h⟩ := bd_some h
      refine s_topi v1 ev1 ?_
      refine s_istore_n hX dX9_clear_28 (by decide) ?_
      refine s_aload_n hX dX9_clear_29 rfl ?_
      refine s_getR (r := 1) hX fo_RX9_25_8 SH_0 rfl dX9_clear_30 ?_
      refine s_iload_n hX dX9_clear_33 rfl ?_
      obtain ⟨σ2, hc, h⟩ := bn_some h
      refine s_callVV _ hX (cX7_begin_p_ok (sl X)  hc) SH_1 mv_RX9_87_6 (fun _ => rfl) (by decide) (Nat.le_of_ble_eq_true rfl) hcs dX9_clear_34 rfl ?_
      refine s_aload_n hX dX9_clear_37 rfl ?_
      obtain ⟨σ3, hc, h⟩ := bn_some h
      refine s_callVV _ hX (cX9_programChanged_ok (sl X)  hc) SH_0 mv_RX9_91_8 (fun _ => rfl) (by decide) (Nat.le_of_ble_eq_true rfl) hcs dX9_clear_38 rfl ?_
      refine s_iload_n hX dX9_clear_41 rfl ?_
      exact absurd (rt3 h).1 he
    · replace h := (if_neg c4).symm.trans h
      obtain ⟨rfl, -, rfl⟩ := rt3 h
      exact hthr _ _ _ 76 78 80 _ xw_1_76_80 (List.mem_of_getElem? (i := 0) rfl) dX9_clear_11 dX9_clear_14 (Or.inl ⟨dX9_clear_15, dX9_clear_17, dX9_clear_20⟩) (Nat.le_of_ble_eq_true rfl)
def fX9_requireBlock (σ : Mm) (l1 : Int32) : Option Rx :=
  if l1 < 0 then
  some (2, 0, σ)
else
  if l1 < (σ 1 2) then
  some (0, 0, σ)
else
  some (2, 0, σ)
set_option maxHeartbeats 4000000 in
theorem cX9_requireBlock_ok (l : Launch) {σ : Mm} {l1 : Int32} {r : Int32} {σ' : Mm}  (h : fX9_requireBlock σ l1 = some (0, r, σ')) : cV l yX9_requireBlock cX9_requireBlock 2 8 120 (fun ad => [.ref (ad 0), .int l1]) σ σ' := by
  refine c_enterV (fun ad => [some (.ref (ad 0)), some (.int l1)]) (by decide) (fun ad => ⟨by simp [Value.category], Nat.le_of_ble_eq_true rfl⟩) (fun ad => ⟨0, rfl⟩) ?_
  intro X _ hX hret
  have hcs : ((0 : Nat), (0 : Nat)).1 ≤ (sR X).cells ∧ ((0 : Nat), (0 : Nat)).2 ≤ (sR X).slots := ⟨Nat.zero_le _, Nat.zero_le _⟩
  generalize hcs0 : ((0 : Nat), (0 : Nat)) = cs at hcs hret ⊢
  unfold fX9_requireBlock at h
  show sW X 2 cs σ 0 [some (.ref (sad X 0)), some (.int l1)] []
  refine s_iload_n hX dX9_requireBlock_0 rfl ?_
  refine s_if_lt (tgt := 15) hX dX9_requireBlock_1 (by decide) (fun c2 => ?_) (fun c2 => ?_)
  · replace h := (if_pos c2).symm.trans h
    exact absurd (rt3 h).1 (by decide)
  · replace h := (if_neg c2).symm.trans h
    refine s_iload_n hX dX9_requireBlock_4 rfl ?_
    refine s_aload_n hX dX9_requireBlock_5 rfl ?_
    refine s_getR (r := 1) hX fo_RX9_25_8 SH_0 rfl dX9_requireBlock_6 ?_
    refine s_getI hX fo_RX9_83_6 SH_1 rfl dX9_requireBlock_9 ?_
    refine s_ic_lt (tgt := 26) hX dX9_requireBlock_12 (by decide) (fun c1 => ?_) (fun c1 => ?_)
    · replace h := (if_pos c1).symm.trans h
      obtain ⟨-, -, rfl⟩ := rt3 h
      exact hret _ _ dX9_requireBlock_26
    · replace h := (if_neg c1).symm.trans h
      exact absurd (rt3 h).1 (by decide)
set_option maxHeartbeats 4000000 in
theorem cX9_requireBlock_th (l : Launch) (hl : l.stackTraces = false) {σ : Mm} {l1 : Int32} {e : Nat} {r : Int32} {σ' : Mm}  (he : e ≠ 0) (h : fX9_requireBlock σ l1 = some (e, r, σ')) : cTV l yX9_requireBlock cX9_requireBlock 2 8 120 (fun ad => [.ref (ad 0), .int l1]) σ e σ' := by
  refine c_enterTV (fun ad => [some (.ref (ad 0)), some (.int l1)]) hl (by decide) rfl (by decide) (by decide) (fun ad => ⟨by simp [Value.category], Nat.le_of_ble_eq_true rfl⟩) (fun ad => ⟨0, rfl⟩) ?_
  intro X hsl hX hct hthr hpr
  have hlX : (sl X).stackTraces = false := by rw [hsl]; exact hl
  have hcs : ((0 : Nat), (0 : Nat)).1 ≤ (sR X).cells ∧ ((0 : Nat), (0 : Nat)).2 ≤ (sR X).slots := ⟨Nat.zero_le _, Nat.zero_le _⟩
  replace hct : ((0 : Nat), (0 : Nat)).1 + 1 ≤ (sR X).cells ∧ ((0 : Nat), (0 : Nat)).2 + 6 ≤ (sR X).slots := hct
  generalize hcs0 : ((0 : Nat), (0 : Nat)) = cs at hcs hct hthr hpr ⊢
  unfold fX9_requireBlock at h
  show sW X 2 cs σ 0 [some (.ref (sad X 0)), some (.int l1)] []
  refine s_iload_n hX dX9_requireBlock_0 rfl ?_
  refine s_if_lt (tgt := 15) hX dX9_requireBlock_1 (by decide) (fun c2 => ?_) (fun c2 => ?_)
  · replace h := (if_pos c2).symm.trans h
    obtain ⟨rfl, -, rfl⟩ := rt3 h
    exact hthr _ _ _ 146 363 148 _ xw_2_146_148 (List.mem_of_getElem? (i := 1) rfl) dX9_requireBlock_15 dX9_requireBlock_18 (Or.inr ⟨by decide, dX9_requireBlock_19, dX9_requireBlock_22, dX9_requireBlock_25⟩) (Nat.le_of_ble_eq_true rfl)
  · replace h := (if_neg c2).symm.trans h
    refine s_iload_n hX dX9_requireBlock_4 rfl ?_
    refine s_aload_n hX dX9_requireBlock_5 rfl ?_
    refine s_getR (r := 1) hX fo_RX9_25_8 SH_0 rfl dX9_requireBlock_6 ?_
    refine s_getI hX fo_RX9_83_6 SH_1 rfl dX9_requireBlock_9 ?_
    refine s_ic_lt (tgt := 26) hX dX9_requireBlock_12 (by decide) (fun c1 => ?_) (fun c1 => ?_)
    · replace h := (if_pos c1).symm.trans h
      exact absurd (rt3 h).1 he
    · replace h := (if_neg c1).symm.trans h
      obtain ⟨rfl, -, rfl⟩ := rt3 h
      exact hthr _ _ _ 146 363 148 _ xw_2_146_148 (List.mem_of_getElem? (i := 1) rfl) dX9_requireBlock_15 dX9_requireBlock_18 (Or.inr ⟨by decide, dX9_requireBlock_19, dX9_requireBlock_22, dX9_requireBlock_25⟩) (Nat.le_of_ble_eq_true rfl)
def fX9_append (σ : Mm) (l1 : Int32) (l2 : Int32) (l3 : Int32) (l4 : Int32) (l5 : Int32) : Option Rx :=
  bnT (fX9_requireBlock σ l1) fun r1 σ2 =>
  (fX9_isInstruction σ2 l2 l3 l4 l5).bind fun r3 =>
  if r3 = 0 then
  some (1, 0, σ2)
else
  gd l1 8 <|
  bd (4 + 5 * l1.toNatClampNeg) fun k5 =>
  if (σ2 k5 4) < 8 then
  (fX0_add σ2 k5 l2 l3 l4 l5).bind fun σ6 =>
  (fX9_programChanged σ6).bind fun σ7 =>
  some (0, σ7 k5 4, σ7)
else
  some (3, 0, σ2)
set_option maxHeartbeats 4000000 in
theorem cX9_append_ok (l : Launch) {σ : Mm} {l1 : Int32} {l2 : Int32} {l3 : Int32} {l4 : Int32} {l5 : Int32} {r : Int32} {σ' : Mm}  (h : fX9_append σ l1 l2 l3 l4 l5 = some (0, r, σ')) : cI l yX9_append cX9_append 7 .int 9 141 (fun ad => [.ref (ad 0), .int l1, .int l2, .int l3, .int l4, .int l5]) σ r σ' := by
  refine c_enterI (fun ad => [some (.ref (ad 0)), some (.int l1), some (.int l2), some (.int l3), some (.int l4), some (.int l5), none]) (by decide) (fun ad => ⟨by simp [Value.category], Nat.le_of_ble_eq_true rfl⟩) (fun ad => ⟨1, rfl⟩) ?_
  intro X _ hX hret
  have hcs : ((0 : Nat), (0 : Nat)).1 ≤ (sR X).cells ∧ ((0 : Nat), (0 : Nat)).2 ≤ (sR X).slots := ⟨Nat.zero_le _, Nat.zero_le _⟩
  generalize hcs0 : ((0 : Nat), (0 : Nat)) = cs at hcs hret ⊢
  unfold fX9_append at h
  show sW X 7 cs σ 0 [some (.ref (sad X 0)), some (.int l1), some (.int l2), some (.int l3), some (.int l4), some (.int l5), none] []
  refine s_aload_n hX dX9_append_0 rfl ?_
  refine s_iload_n hX dX9_append_1 rfl ?_
  obtain ⟨r1, σ2, hc, h⟩ := bnT_0 h
  refine s_callVV _ hX (cX9_requireBlock_ok (sl X)  hc) SH_0 mv_RX9_94_8 (fun _ => rfl) (by decide) (Nat.le_of_ble_eq_true rfl) hcs dX9_append_2 rfl ?_
  refine s_iload_n hX dX9_append_5 rfl ?_
  refine s_iload_n hX dX9_append_6 rfl ?_
  refine s_iload hX dX9_append_7 rfl ?_
  refine s_iload hX dX9_append_9 rfl ?_
  obtain ⟨r3, hc, h⟩ := bn_some h
  refine s_callSI _ hX (cX9_isInstruction_ok (sl X)  hc) ms_RX9_97 (fun _ => rfl) (by decide) (Nat.le_of_ble_eq_true rfl) hcs dX9_append_11 rfl ?_
  refine s_if_ne (tgt := 27) hX dX9_append_14 (by decide) (fun c9 => ?_) (fun c9 => ?_)
  · replace h := (if_neg c9).symm.trans h
    refine s_aload_n hX dX9_append_27 rfl ?_
    refine s_getR (r := 1) hX fo_RX9_25_8 SH_0 rfl dX9_append_28 ?_
    refine s_getR (r := 2) hX fo_RX9_103_6 SH_1 rfl dX9_append_31 ?_
    refine s_iload_n hX dX9_append_34 rfl ?_
    obtain ⟨c4, h⟩ := gd_some h
    obtain ⟨k5, ek5, h⟩ := bd_some h
    have Bk5 : isB k5 := Or.inl ⟨_, vp_lt c4, ek5⟩
    refine s_aaldP hX c4 dX9_append_35 ?_
    refine s_topr k5 ek5 ?_
    refine s_astore hX dX9_append_36 (by decide) ?_
    refine s_aload hX dX9_append_38 rfl ?_
    refine s_getI hX fo_RX9_107_0 (isB_0 Bk5) rfl dX9_append_40 ?_
    refine s_bipush 8 hX dX9_append_43 (by decide) ?_
    refine s_ic_lt (tgt := 58) hX dX9_append_45 (by decide) (fun c8 => ?_) (fun c8 => ?_)
    · replace h := (if_pos c8).symm.trans h
      refine s_aload hX dX9_append_58 rfl ?_
      refine s_iload_n hX dX9_append_60 rfl ?_
      refine s_iload_n hX dX9_append_61 rfl ?_
      refine s_iload hX dX9_append_62 rfl ?_
      refine s_iload hX dX9_append_64 rfl ?_
      obtain ⟨σ6, hc, h⟩ := bn_some h
      refine s_callVV _ hX (cX0_add_ok (sl X) Bk5 hc) (isB_0 Bk5) mv_RX9_115_0 (fun _ => rfl) (by decide) (Nat.le_of_ble_eq_true rfl) hcs dX9_append_66 rfl ?_
      refine s_aload_n hX dX9_append_69 rfl ?_
      obtain ⟨σ7, hc, h⟩ := bn_some h
      refine s_callVV _ hX (cX9_programChanged_ok (sl X)  hc) SH_0 mv_RX9_91_8 (fun _ => rfl) (by decide) (Nat.le_of_ble_eq_true rfl) hcs dX9_append_70 rfl ?_
      refine s_aload hX dX9_append_73 rfl ?_
      refine s_getI hX fo_RX9_107_0 (isB_0 Bk5) rfl dX9_append_75 ?_
      obtain ⟨-, rfl, rfl⟩ := rt3 h
      exact hret _ _ (nzi _) dX9_append_78
    · replace h := (if_neg c8).symm.trans h
      exact absurd (rt3 h).1 (by decide)
  · replace h := (if_pos c9).symm.trans h
    exact absurd (rt3 h).1 (by decide)
set_option maxHeartbeats 4000000 in
theorem cX9_append_th (l : Launch) (hl : l.stackTraces = false) {σ : Mm} {l1 : Int32} {l2 : Int32} {l3 : Int32} {l4 : Int32} {l5 : Int32} {e : Nat} {r : Int32} {σ' : Mm}  (he : e ≠ 0) (h : fX9_append σ l1 l2 l3 l4 l5 = some (e, r, σ')) : cTI l yX9_append cX9_append 7 .int 9 141 (fun ad => [.ref (ad 0), .int l1, .int l2, .int l3, .int l4, .int l5]) σ e σ' := by
  refine c_enterTI (fun ad => [some (.ref (ad 0)), some (.int l1), some (.int l2), some (.int l3), some (.int l4), some (.int l5), none]) hl (by decide) rfl (by decide) (by decide) (fun ad => ⟨by simp [Value.category], Nat.le_of_ble_eq_true rfl⟩) (fun ad => ⟨1, rfl⟩) ?_
  intro X hsl hX hct hthr hpr
  have hlX : (sl X).stackTraces = false := by rw [hsl]; exact hl
  have hcs : ((0 : Nat), (0 : Nat)).1 ≤ (sR X).cells ∧ ((0 : Nat), (0 : Nat)).2 ≤ (sR X).slots := ⟨Nat.zero_le _, Nat.zero_le _⟩
  replace hct : ((0 : Nat), (0 : Nat)).1 + 1 ≤ (sR X).cells ∧ ((0 : Nat), (0 : Nat)).2 + 6 ≤ (sR X).slots := hct
  generalize hcs0 : ((0 : Nat), (0 : Nat)) = cs at hcs hct hthr hpr ⊢
  unfold fX9_append at h
  show sW X 7 cs σ 0 [some (.ref (sad X 0)), some (.int l1), some (.int l2), some (.int l3), some (.int l4), some (.int l5), none] []
  refine s_aload_n hX dX9_append_0 rfl ?_
  refine s_iload_n hX dX9_append_1 rfl ?_
  rcases bnT_e he h with ⟨r1, σ2, hc, h⟩ | ⟨r1, hc⟩
  · refine s_callVV _ hX (cX9_requireBlock_ok (sl X)  hc) SH_0 mv_RX9_94_8 (fun _ => rfl) (by decide) (Nat.le_of_ble_eq_true rfl) hcs dX9_append_2 rfl ?_
    refine s_iload_n hX dX9_append_5 rfl ?_
    refine s_iload_n hX dX9_append_6 rfl ?_
    refine s_iload hX dX9_append_7 rfl ?_
    refine s_iload hX dX9_append_9 rfl ?_
    obtain ⟨r3, hc, h⟩ := bn_some h
    refine s_callSI _ hX (cX9_isInstruction_ok (sl X)  hc) ms_RX9_97 (fun _ => rfl) (by decide) (Nat.le_of_ble_eq_true rfl) hcs dX9_append_11 rfl ?_
    refine s_if_ne (tgt := 27) hX dX9_append_14 (by decide) (fun c9 => ?_) (fun c9 => ?_)
    · replace h := (if_neg c9).symm.trans h
      refine s_aload_n hX dX9_append_27 rfl ?_
      refine s_getR (r := 1) hX fo_RX9_25_8 SH_0 rfl dX9_append_28 ?_
      refine s_getR (r := 2) hX fo_RX9_103_6 SH_1 rfl dX9_append_31 ?_
      refine s_iload_n hX dX9_append_34 rfl ?_
      obtain ⟨c4, h⟩ := gd_some h
      obtain ⟨k5, ek5, h⟩ := bd_some h
      have Bk5 : isB k5 := Or.inl ⟨_, vp_lt c4, ek5⟩
      refine s_aaldP hX c4 dX9_append_35 ?_
      refine s_topr k5 ek5 ?_
      refine s_astore hX dX9_append_36 (by decide) ?_
      refine s_aload hX dX9_append_38 rfl ?_
      refine s_getI hX fo_RX9_107_0 (isB_0 Bk5) rfl dX9_append_40 ?_
      refine s_bipush 8 hX dX9_append_43 (by decide) ?_
      refine s_ic_lt (tgt := 58) hX dX9_append_45 (by decide) (fun c8 => ?_) (fun c8 => ?_)
      · replace h := (if_pos c8).symm.trans h
        refine s_aload hX dX9_append_58 rfl ?_
        refine s_iload_n hX dX9_append_60 rfl ?_
        refine s_iload_n hX dX9_append_61 rfl ?_
        refine s_iload hX dX9_append_62 rfl ?_
        refine s_iload hX dX9_append_64 rfl ?_
        obtain ⟨σ6, hc, h⟩ := bn_some h
        refine s_callVV _ hX (cX0_add_ok (sl X) Bk5 hc) (isB_0 Bk5) mv_RX9_115_0 (fun _ => rfl) (by decide) (Nat.le_of_ble_eq_true rfl) hcs dX9_append_66 rfl ?_
        refine s_aload_n hX dX9_append_69 rfl ?_
        obtain ⟨σ7, hc, h⟩ := bn_some h
        refine s_callVV _ hX (cX9_programChanged_ok (sl X)  hc) SH_0 mv_RX9_91_8 (fun _ => rfl) (by decide) (Nat.le_of_ble_eq_true rfl) hcs dX9_append_70 rfl ?_
        refine s_aload hX dX9_append_73 rfl ?_
        refine s_getI hX fo_RX9_107_0 (isB_0 Bk5) rfl dX9_append_75 ?_
        exact absurd (rt3 h).1 he
      · replace h := (if_neg c8).symm.trans h
        obtain ⟨rfl, -, rfl⟩ := rt3 h
        exact hthr _ _ _ 110 112 114 _ xw_3_110_114 (List.mem_of_getElem? (i := 3) rfl) dX9_append_48 dX9_append_51 (Or.inl ⟨dX9_append_52, dX9_append_54, dX9_append_57⟩) (Nat.le_of_ble_eq_true rfl)
    · replace h := (if_pos c9).symm.trans h
      obtain ⟨rfl, -, rfl⟩ := rt3 h
      exact hthr _ _ _ 76 101 80 _ xw_1_76_80 (List.mem_of_getElem? (i := 2) rfl) dX9_append_17 dX9_append_20 (Or.inl ⟨dX9_append_21, dX9_append_23, dX9_append_26⟩) (Nat.le_of_ble_eq_true rfl)
  · exact s_callVTV _ hX (cX9_requireBlock_th (sl X) hlX  he hc) SH_0 rfl mt_RX9_94 (fun _ => rfl) (by decide) (Nat.le_of_ble_eq_true rfl) hct dX9_append_2 rfl hpr
def fX9_removeLast (σ : Mm) (l1 : Int32) : Option Rx :=
  bnT (fX9_requireBlock σ l1) fun r1 σ2 =>
  gd l1 8 <|
  bd (4 + 5 * l1.toNatClampNeg) fun k4 =>
  if (σ2 k4 4) = 0 then
  some (4, 0, σ2)
else
  bd (upm σ2 k4 (upd (σ2 k4) 4 ((σ2 k4 4) - 1))) fun σ5 =>
  (fX9_programChanged σ5).bind fun σ6 =>
  gd (σ6 k4 4) 8 <|
  some (0, σ6 (k4 + 1) (σ6 k4 4).toNatClampNeg, σ6)
set_option maxHeartbeats 4000000 in
theorem cX9_removeLast_ok (l : Launch) {σ : Mm} {l1 : Int32} {r : Int32} {σ' : Mm}  (h : fX9_removeLast σ l1 = some (0, r, σ')) : cI l yX9_removeLast cX9_removeLast 3 .int 9 141 (fun ad => [.ref (ad 0), .int l1]) σ r σ' := by
  refine c_enterI (fun ad => [some (.ref (ad 0)), some (.int l1), none]) (by decide) (fun ad => ⟨by simp [Value.category], Nat.le_of_ble_eq_true rfl⟩) (fun ad => ⟨1, rfl⟩) ?_
  intro X _ hX hret
  have hcs : ((0 : Nat), (0 : Nat)).1 ≤ (sR X).cells ∧ ((0 : Nat), (0 : Nat)).2 ≤ (sR X).slots := ⟨Nat.zero_le _, Nat.zero_le _⟩
  generalize hcs0 : ((0 : Nat), (0 : Nat)) = cs at hcs hret ⊢
  unfold fX9_removeLast at h
  show sW X 3 cs σ 0 [some (.ref (sad X 0)), some (.int l1), none] []
  refine s_aload_n hX dX9_removeLast_0 rfl ?_
  refine s_iload_n hX dX9_removeLast_1 rfl ?_
  obtain ⟨r1, σ2, hc, h⟩ := bnT_0 h
  refine s_callVV _ hX (cX9_requireBlock_ok (sl X)  hc) SH_0 mv_RX9_94_8 (fun _ => rfl) (by decide) (Nat.le_of_ble_eq_true rfl) hcs dX9_removeLast_2 rfl ?_
  refine s_aload_n hX dX9_removeLast_5 rfl ?_
  refine s_getR (r := 1) hX fo_RX9_25_8 SH_0 rfl dX9_removeLast_6 ?_
  refine s_getR (r := 2) hX fo_RX9_103_6 SH_1 rfl dX9_removeLast_9 ?_
  refine s_iload_n hX dX9_removeLast_12 rfl ?_
  obtain ⟨c3, h⟩ := gd_some h
  obtain ⟨k4, ek4, h⟩ := bd_some h
  have Bk4 : isB k4 := Or.inl ⟨_, vp_lt c3, ek4⟩
  refine s_aaldP hX c3 dX9_removeLast_13 ?_
  refine s_topr k4 ek4 ?_
  refine s_astore_n hX dX9_removeLast_14 (by decide) ?_
  refine s_aload_n hX dX9_removeLast_15 rfl ?_
  refine s_getI hX fo_RX9_107_0 (isB_0 Bk4) rfl dX9_removeLast_16 ?_
  refine s_if_ne (tgt := 32) hX dX9_removeLast_19 (by decide) (fun c8 => ?_) (fun c8 => ?_)
  · replace h := (if_neg c8).symm.trans h
    refine s_aload_n hX dX9_removeLast_32 rfl ?_
    refine s_dup hX dX9_removeLast_33 rfl ?_
    refine s_getI hX fo_RX9_107_0 (isB_0 Bk4) rfl dX9_removeLast_34 ?_
    refine s_iconst 1 hX dX9_removeLast_37 (by decide) ?_
    refine s_isub hX dX9_removeLast_38 ?_
    obtain ⟨σ5, eσ5, h⟩ := bd_some h
    refine s_putI hX fo_RX9_107_0 (isB_0 Bk4) rfl dX9_removeLast_39 ?_
    refine s_mem σ5 eσ5 ?_
    refine s_aload_n hX dX9_removeLast_42 rfl ?_
    obtain ⟨σ6, hc, h⟩ := bn_some h
    refine s_callVV _ hX (cX9_programChanged_ok (sl X)  hc) SH_0 mv_RX9_91_8 (fun _ => rfl) (by decide) (Nat.le_of_ble_eq_true rfl) hcs dX9_removeLast_43 rfl ?_
    refine s_aload_n hX dX9_removeLast_46 rfl ?_
    refine s_getR (r := k4 + 1) hX fo_RX9_124_0 (isB_0 Bk4) rfl dX9_removeLast_47 ?_
    refine s_aload_n hX dX9_removeLast_50 rfl ?_
    refine s_getI hX fo_RX9_107_0 (isB_0 Bk4) rfl dX9_removeLast_51 ?_
    obtain ⟨c7, h⟩ := gd_some h
    refine s_iald hX (isB_r Bk4).1 c7 dX9_removeLast_54 ?_
    obtain ⟨-, rfl, rfl⟩ := rt3 h
    exact hret _ _ (nzi _) dX9_removeLast_55
  · replace h := (if_pos c8).symm.trans h
    exact absurd (rt3 h).1 (by decide)
set_option maxHeartbeats 4000000 in
theorem cX9_removeLast_th (l : Launch) (hl : l.stackTraces = false) {σ : Mm} {l1 : Int32} {e : Nat} {r : Int32} {σ' : Mm}  (he : e ≠ 0) (h : fX9_removeLast σ l1 = some (e, r, σ')) : cTI l yX9_removeLast cX9_removeLast 3 .int 9 141 (fun ad => [.ref (ad 0), .int l1]) σ e σ' := by
  refine c_enterTI (fun ad => [some (.ref (ad 0)), some (.int l1), none]) hl (by decide) rfl (by decide) (by decide) (fun ad => ⟨by simp [Value.category], Nat.le_of_ble_eq_true rfl⟩) (fun ad => ⟨1, rfl⟩) ?_
  intro X hsl hX hct hthr hpr
  have hlX : (sl X).stackTraces = false := by rw [hsl]; exact hl
  have hcs : ((0 : Nat), (0 : Nat)).1 ≤ (sR X).cells ∧ ((0 : Nat), (0 : Nat)).2 ≤ (sR X).slots := ⟨Nat.zero_le _, Nat.zero_le _⟩
  replace hct : ((0 : Nat), (0 : Nat)).1 + 1 ≤ (sR X).cells ∧ ((0 : Nat), (0 : Nat)).2 + 6 ≤ (sR X).slots := hct
  generalize hcs0 : ((0 : Nat), (0 : Nat)) = cs at hcs hct hthr hpr ⊢
  unfold fX9_removeLast at h
  show sW X 3 cs σ 0 [some (.ref (sad X 0)), some (.int l1), none] []
  refine s_aload_n hX dX9_removeLast_0 rfl ?_
  refine s_iload_n hX dX9_removeLast_1 rfl ?_
  rcases bnT_e he h with ⟨r1, σ2, hc, h⟩ | ⟨r1, hc⟩
  · refine s_callVV _ hX (cX9_requireBlock_ok (sl X)  hc) SH_0 mv_RX9_94_8 (fun _ => rfl) (by decide) (Nat.le_of_ble_eq_true rfl) hcs dX9_removeLast_2 rfl ?_
    refine s_aload_n hX dX9_removeLast_5 rfl ?_
    refine s_getR (r := 1) hX fo_RX9_25_8 SH_0 rfl dX9_removeLast_6 ?_
    refine s_getR (r := 2) hX fo_RX9_103_6 SH_1 rfl dX9_removeLast_9 ?_
    refine s_iload_n hX dX9_removeLast_12 rfl ?_
    obtain ⟨c3, h⟩ := gd_some h
    obtain ⟨k4, ek4, h⟩ := bd_some h
    have Bk4 : isB k4 := Or.inl ⟨_, vp_lt c3, ek4⟩
    refine s_aaldP hX c3 dX9_removeLast_13 ?_
    refine s_topr k4 ek4 ?_
    refine s_astore_n hX dX9_removeLast_14 (by decide) ?_
    refine s_aload_n hX dX9_removeLast_15 rfl ?_
    refine s_getI hX fo_RX9_107_0 (isB_0 Bk4) rfl dX9_removeLast_16 ?_
    refine s_if_ne (tgt := 32) hX dX9_removeLast_19 (by decide) (fun c8 => ?_) (fun c8 => ?_)
    · replace h := (if_neg c8).symm.trans h
      refine s_aload_n hX dX9_removeLast_32 rfl ?_
      refine s_dup hX dX9_removeLast_33 rfl ?_
      refine s_getI hX fo_RX9_107_0 (isB_0 Bk4) rfl dX9_removeLast_34 ?_
      refine s_iconst 1 hX dX9_removeLast_37 (by decide) ?_
      refine s_isub hX dX9_removeLast_38 ?_
      obtain ⟨σ5, eσ5, h⟩ := bd_some h
      refine s_putI hX fo_RX9_107_0 (isB_0 Bk4) rfl dX9_removeLast_39 ?_
      refine s_mem σ5 eσ5 ?_
      refine s_aload_n hX dX9_removeLast_42 rfl ?_
      obtain ⟨σ6, hc, h⟩ := bn_some h
      refine s_callVV _ hX (cX9_programChanged_ok (sl X)  hc) SH_0 mv_RX9_91_8 (fun _ => rfl) (by decide) (Nat.le_of_ble_eq_true rfl) hcs dX9_removeLast_43 rfl ?_
      refine s_aload_n hX dX9_removeLast_46 rfl ?_
      refine s_getR (r := k4 + 1) hX fo_RX9_124_0 (isB_0 Bk4) rfl dX9_removeLast_47 ?_
      refine s_aload_n hX dX9_removeLast_50 rfl ?_
      refine s_getI hX fo_RX9_107_0 (isB_0 Bk4) rfl dX9_removeLast_51 ?_
      obtain ⟨c7, h⟩ := gd_some h
      refine s_iald hX (isB_r Bk4).1 c7 dX9_removeLast_54 ?_
      exact absurd (rt3 h).1 he
    · replace h := (if_pos c8).symm.trans h
      obtain ⟨rfl, -, rfl⟩ := rt3 h
      exact hthr _ _ _ 119 121 123 _ xw_4_119_123 (List.mem_of_getElem? (i := 4) rfl) dX9_removeLast_22 dX9_removeLast_25 (Or.inl ⟨dX9_removeLast_26, dX9_removeLast_28, dX9_removeLast_31⟩) (Nat.le_of_ble_eq_true rfl)
  · exact s_callVTV _ hX (cX9_requireBlock_th (sl X) hlX  he hc) SH_0 rfl mt_RX9_94 (fun _ => rfl) (by decide) (Nat.le_of_ble_eq_true rfl) hct dX9_removeLast_2 rfl hpr
def fX9_requireVariable (σ : Mm) (l1 : Int32) : Option Rx :=
  (fX9_isVariable σ l1).bind fun r1 =>
  if r1 = 0 then
  some (1, 0, σ)
else
  some (0, 0, σ)
set_option maxHeartbeats 4000000 in
theorem cX9_requireVariable_ok (l : Launch) {σ : Mm} {l1 : Int32} {r : Int32} {σ' : Mm}  (h : fX9_requireVariable σ l1 = some (0, r, σ')) : cV l yX9_requireVariable cX9_requireVariable 2 8 120 (fun ad => [.ref (ad 0), .int l1]) σ σ' := by
  refine c_enterV (fun ad => [some (.ref (ad 0)), some (.int l1)]) (by decide) (fun ad => ⟨by simp [Value.category], Nat.le_of_ble_eq_true rfl⟩) (fun ad => ⟨0, rfl⟩) ?_
  intro X _ hX hret
  have hcs : ((0 : Nat), (0 : Nat)).1 ≤ (sR X).cells ∧ ((0 : Nat), (0 : Nat)).2 ≤ (sR X).slots := ⟨Nat.zero_le _, Nat.zero_le _⟩
  generalize hcs0 : ((0 : Nat), (0 : Nat)) = cs at hcs hret ⊢
  unfold fX9_requireVariable at h
  show sW X 2 cs σ 0 [some (.ref (sad X 0)), some (.int l1)] []
  refine s_iload_n hX dX9_requireVariable_0 rfl ?_
  obtain ⟨r1, hc, h⟩ := bn_some h
  refine s_callSI _ hX (cX9_isVariable_ok (sl X)  hc) ms_RX9_365 (fun _ => rfl) (by decide) (Nat.le_of_ble_eq_true rfl) hcs dX9_requireVariable_1 rfl ?_
  refine s_if_ne (tgt := 18) hX dX9_requireVariable_4 (by decide) (fun c2 => ?_) (fun c2 => ?_)
  · replace h := (if_neg c2).symm.trans h
    obtain ⟨-, -, rfl⟩ := rt3 h
    exact hret _ _ dX9_requireVariable_18
  · replace h := (if_pos c2).symm.trans h
    exact absurd (rt3 h).1 (by decide)
set_option maxHeartbeats 4000000 in
theorem cX9_requireVariable_th (l : Launch) (hl : l.stackTraces = false) {σ : Mm} {l1 : Int32} {e : Nat} {r : Int32} {σ' : Mm}  (he : e ≠ 0) (h : fX9_requireVariable σ l1 = some (e, r, σ')) : cTV l yX9_requireVariable cX9_requireVariable 2 8 120 (fun ad => [.ref (ad 0), .int l1]) σ e σ' := by
  refine c_enterTV (fun ad => [some (.ref (ad 0)), some (.int l1)]) hl (by decide) rfl (by decide) (by decide) (fun ad => ⟨by simp [Value.category], Nat.le_of_ble_eq_true rfl⟩) (fun ad => ⟨0, rfl⟩) ?_
  intro X hsl hX hct hthr hpr
  have hlX : (sl X).stackTraces = false := by rw [hsl]; exact hl
  have hcs : ((0 : Nat), (0 : Nat)).1 ≤ (sR X).cells ∧ ((0 : Nat), (0 : Nat)).2 ≤ (sR X).slots := ⟨Nat.zero_le _, Nat.zero_le _⟩
  replace hct : ((0 : Nat), (0 : Nat)).1 + 1 ≤ (sR X).cells ∧ ((0 : Nat), (0 : Nat)).2 + 6 ≤ (sR X).slots := hct
  generalize hcs0 : ((0 : Nat), (0 : Nat)) = cs at hcs hct hthr hpr ⊢
  unfold fX9_requireVariable at h
  show sW X 2 cs σ 0 [some (.ref (sad X 0)), some (.int l1)] []
  refine s_iload_n hX dX9_requireVariable_0 rfl ?_
  obtain ⟨r1, hc, h⟩ := bn_some h
  refine s_callSI _ hX (cX9_isVariable_ok (sl X)  hc) ms_RX9_365 (fun _ => rfl) (by decide) (Nat.le_of_ble_eq_true rfl) hcs dX9_requireVariable_1 rfl ?_
  refine s_if_ne (tgt := 18) hX dX9_requireVariable_4 (by decide) (fun c2 => ?_) (fun c2 => ?_)
  · replace h := (if_neg c2).symm.trans h
    exact absurd (rt3 h).1 he
  · replace h := (if_pos c2).symm.trans h
    obtain ⟨rfl, -, rfl⟩ := rt3 h
    exact hthr _ _ _ 76 368 80 _ xw_1_76_80 (List.mem_of_getElem? (i := 6) rfl) dX9_requireVariable_7 dX9_requireVariable_10 (Or.inr ⟨by decide, dX9_requireVariable_11, dX9_requireVariable_14, dX9_requireVariable_17⟩) (Nat.le_of_ble_eq_true rfl)
def fX9_setEnd (σ : Mm) (l1 : Int32) (l2 : Int32) (l3 : Int32) (l4 : Int32) (l5 : Int32) : Option Rx :=
  bnT (fX9_requireBlock σ l1) fun r1 σ2 =>
  jn (fun (σ3 : Mm) => jn (fun (σ5 : Mm) => if l2 < 0 then
  some (1, 0, σ5)
else
  if l2 ≤ 2 then
  jn (fun (σ7 : Mm) => gd l1 8 <|
  bd (4 + 5 * l1.toNatClampNeg) fun k10 =>
  bd (σ7 k10 5) fun v11 =>
  (fX0_finish σ7 k10 l2 l3 l4 l5).bind fun σ12 =>
  (fX9_programChanged σ12).bind fun σ13 =>
  some (0, v11, σ13)) fun j8 =>
  if l2 = 0 then
  j8 σ5
else
  bnT (fX9_requireVariable σ5 l3) fun r14 σ15 =>
  j8 σ15
else
  some (1, 0, σ5)) fun j6 =>
  if l2 = 1 then
  bnT (fX9_requireBlock σ3 l5) fun r19 σ20 =>
  j6 σ20
else
  j6 σ3) fun j4 =>
  if l2 = 0 then
  bnT (fX9_requireBlock σ2 l4) fun r22 σ23 =>
  j4 σ23
else
  if l2 = 1 then
  bnT (fX9_requireBlock σ2 l4) fun r24 σ25 =>
  j4 σ25
else
  j4 σ2
set_option maxHeartbeats 4000000 in
theorem cX9_setEnd_ok (l : Launch) {σ : Mm} {l1 : Int32} {l2 : Int32} {l3 : Int32} {l4 : Int32} {l5 : Int32} {r : Int32} {σ' : Mm}  (h : fX9_setEnd σ l1 l2 l3 l4 l5 = some (0, r, σ')) : cI l yX9_setEnd cX9_setEnd 8 .int 9 141 (fun ad => [.ref (ad 0), .int l1, .int l2, .int l3, .int l4, .int l5]) σ r σ' := by
  refine c_enterI (fun ad => [some (.ref (ad 0)), some (.int l1), some (.int l2), some (.int l3), some (.int l4), some (.int l5), none, none]) (by decide) (fun ad => ⟨by simp [Value.category], Nat.le_of_ble_eq_true rfl⟩) (fun ad => ⟨2, rfl⟩) ?_
  intro X _ hX hret
  have hcs : ((0 : Nat), (0 : Nat)).1 ≤ (sR X).cells ∧ ((0 : Nat), (0 : Nat)).2 ≤ (sR X).slots := ⟨Nat.zero_le _, Nat.zero_le _⟩
  generalize hcs0 : ((0 : Nat), (0 : Nat)) = cs at hcs hret ⊢
  unfold fX9_setEnd at h
  show sW X 8 cs σ 0 [some (.ref (sad X 0)), some (.int l1), some (.int l2), some (.int l3), some (.int l4), some (.int l5), none, none] []
  refine s_aload_n hX dX9_setEnd_0 rfl ?_
  refine s_iload_n hX dX9_setEnd_1 rfl ?_
  obtain ⟨r1, σ2, hc, h⟩ := bnT_0 h
  refine s_callVV _ hX (cX9_requireBlock_ok (sl X)  hc) SH_0 mv_RX9_94_8 (fun _ => rfl) (by decide) (Nat.le_of_ble_eq_true rfl) hcs dX9_setEnd_2 rfl ?_
  refine s_iload_n hX dX9_setEnd_5 rfl ?_
  refine jn_use (fun j => ∀ (σ3 : Mm), j σ3 = some (0, r, σ') → sW X 8 cs σ3 20 [some (.ref (sad X 0)), some (.int l1), some (.int l2), some (.int l3), some (.int l4), some (.int l5), none, none] []) h ?_ ?_
  · intro σ3 h
    refine s_iload_n hX dX9_setEnd_20 rfl ?_
    refine s_iconst 1 hX dX9_setEnd_21 (by decide) ?_
    refine jn_use (fun j => ∀ (σ5 : Mm), j σ5 = some (0, r, σ') → sW X 8 cs σ5 31 [some (.ref (sad X 0)), some (.int l1), some (.int l2), some (.int l3), some (.int l4), some (.int l5), none, none] []) h ?_ ?_
    · intro σ5 h
      refine s_iload_n hX dX9_setEnd_31 rfl ?_
      refine s_if_lt (tgt := 40) hX dX9_setEnd_32 (by decide) (fun c18 => ?_) (fun c18 => ?_)
      · replace h := (if_pos c18).symm.trans h
        exact absurd (rt3 h).1 (by decide)
      · replace h := (if_neg c18).symm.trans h
        refine s_iload_n hX dX9_setEnd_35 rfl ?_
        refine s_iconst 2 hX dX9_setEnd_36 (by decide) ?_
        refine s_ic_le (tgt := 50) hX dX9_setEnd_37 (by decide) (fun c17 => ?_) (fun c17 => ?_)
        · replace h := (if_pos c17).symm.trans h
          refine s_iload_n hX dX9_setEnd_50 rfl ?_
          refine jn_use (fun j => ∀ (σ7 : Mm), j σ7 = some (0, r, σ') → sW X 8 cs σ7 59 [some (.ref (sad X 0)), some (.int l1), some (.int l2), some (.int l3), some (.int l4), some (.int l5), none, none] []) h ?_ ?_
          · intro σ7 h
            refine s_aload_n hX dX9_setEnd_59 rfl ?_
            refine s_getR (r := 1) hX fo_RX9_25_8 SH_0 rfl dX9_setEnd_60 ?_
            refine s_getR (r := 2) hX fo_RX9_103_6 SH_1 rfl dX9_setEnd_63 ?_
            refine s_iload_n hX dX9_setEnd_66 rfl ?_
            obtain ⟨c9, h⟩ := gd_some h
            obtain ⟨k10, ek10, h⟩ := bd_some h
            have Bk10 : isB k10 := Or.inl ⟨_, vp_lt c9, ek10⟩
            refine s_aaldP hX c9 dX9_setEnd_67 ?_
            refine s_topr k10 ek10 ?_
            refine s_astore hX dX9_setEnd_68 (by decide) ?_
            refine s_aload hX dX9_setEnd_70 rfl ?_
            refine s_getI hX fo_RX9_132_0 (isB_0 Bk10) rfl dX9_setEnd_72 ?_
            obtain ⟨v11, ev11, h⟩ := bd_some h
            refine s_topi v11 ev11 ?_
            refine s_istore hX dX9_setEnd_75 (by decide) ?_
            refine s_aload hX dX9_setEnd_77 rfl ?_
            refine s_iload_n hX dX9_setEnd_79 rfl ?_
            refine s_iload_n hX dX9_setEnd_80 rfl ?_
            refine s_iload hX dX9_setEnd_81 rfl ?_
            refine s_iload hX dX9_setEnd_83 rfl ?_
            obtain ⟨σ12, hc, h⟩ := bn_some h
            refine s_callVV _ hX (cX0_finish_ok (sl X) Bk10 hc) (isB_0 Bk10) mv_RX9_135_0 (fun _ => rfl) (by decide) (Nat.le_of_ble_eq_true rfl) hcs dX9_setEnd_85 rfl ?_
            refine s_aload_n hX dX9_setEnd_88 rfl ?_
            obtain ⟨σ13, hc, h⟩ := bn_some h
            refine s_callVV _ hX (cX9_programChanged_ok (sl X)  hc) SH_0 mv_RX9_91_8 (fun _ => rfl) (by decide) (Nat.le_of_ble_eq_true rfl) hcs dX9_setEnd_89 rfl ?_
            refine s_iload hX dX9_setEnd_92 rfl ?_
            obtain ⟨-, rfl, rfl⟩ := rt3 h
            exact hret _ _ (nzi _) dX9_setEnd_94
          · intro j8 hj8 h
            refine s_if_eq (tgt := 59) hX dX9_setEnd_51 (by decide) (fun c16 => ?_) (fun c16 => ?_)
            · replace h := (if_pos c16).symm.trans h
              refine s_mask [true, true, true, true, true, true, false, false] ?_
              exact hj8 _ h
            · replace h := (if_neg c16).symm.trans h
              refine s_aload_n hX dX9_setEnd_54 rfl ?_
              refine s_iload_n hX dX9_setEnd_55 rfl ?_
              obtain ⟨r14, σ15, hc, h⟩ := bnT_0 h
              refine s_callVV _ hX (cX9_requireVariable_ok (sl X)  hc) SH_0 mv_RX9_129_8 (fun _ => rfl) (by decide) (Nat.le_of_ble_eq_true rfl) hcs dX9_setEnd_56 rfl ?_
              refine s_mask [true, true, true, true, true, true, false, false] ?_
              exact hj8 _ h
        · replace h := (if_neg c17).symm.trans h
          exact absurd (rt3 h).1 (by decide)
    · intro j6 hj6 h
      refine s_ic_ne (tgt := 31) hX dX9_setEnd_22 (by decide) (fun c21 => ?_) (fun c21 => ?_)
      · replace h := (if_neg c21).symm.trans h
        refine s_mask [true, true, true, true, true, true, false, false] ?_
        exact hj6 _ h
      · replace h := (if_pos c21).symm.trans h
        refine s_aload_n hX dX9_setEnd_25 rfl ?_
        refine s_iload hX dX9_setEnd_26 rfl ?_
        obtain ⟨r19, σ20, hc, h⟩ := bnT_0 h
        refine s_callVV _ hX (cX9_requireBlock_ok (sl X)  hc) SH_0 mv_RX9_94_8 (fun _ => rfl) (by decide) (Nat.le_of_ble_eq_true rfl) hcs dX9_setEnd_28 rfl ?_
        refine s_mask [true, true, true, true, true, true, false, false] ?_
        exact hj6 _ h
  · intro j4 hj4 h
    refine s_if_eq (tgt := 14) hX dX9_setEnd_6 (by decide) (fun c27 => ?_) (fun c27 => ?_)
    · replace h := (if_pos c27).symm.trans h
      refine s_aload_n hX dX9_setEnd_14 rfl ?_
      refine s_iload hX dX9_setEnd_15 rfl ?_
      obtain ⟨r22, σ23, hc, h⟩ := bnT_0 h
      refine s_callVV _ hX (cX9_requireBlock_ok (sl X)  hc) SH_0 mv_RX9_94_8 (fun _ => rfl) (by decide) (Nat.le_of_ble_eq_true rfl) hcs dX9_setEnd_17 rfl ?_
      refine s_mask [true, true, true, true, true, true, false, false] ?_
      exact hj4 _ h
    · replace h := (if_neg c27).symm.trans h
      refine s_iload_n hX dX9_setEnd_9 rfl ?_
      refine s_iconst 1 hX dX9_setEnd_10 (by decide) ?_
      refine s_ic_ne (tgt := 20) hX dX9_setEnd_11 (by decide) (fun c26 => ?_) (fun c26 => ?_)
      · replace h := (if_neg c26).symm.trans h
        refine s_mask [true, true, true, true, true, true, false, false] ?_
        exact hj4 _ h
      · replace h := (if_pos c26).symm.trans h
        refine s_aload_n hX dX9_setEnd_14 rfl ?_
        refine s_iload hX dX9_setEnd_15 rfl ?_
        obtain ⟨r24, σ25, hc, h⟩ := bnT_0 h
        refine s_callVV _ hX (cX9_requireBlock_ok (sl X)  hc) SH_0 mv_RX9_94_8 (fun _ => rfl) (by decide) (Nat.le_of_ble_eq_true rfl) hcs dX9_setEnd_17 rfl ?_
        refine s_mask [true, true, true, true, true, true, false, false] ?_
        exact hj4 _ h
set_option maxHeartbeats 4000000 in
theorem cX9_setEnd_th (l : Launch) (hl : l.stackTraces = false) {σ : Mm} {l1 : Int32} {l2 : Int32} {l3 : Int32} {l4 : Int32} {l5 : Int32} {e : Nat} {r : Int32} {σ' : Mm}  (he : e ≠ 0) (h : fX9_setEnd σ l1 l2 l3 l4 l5 = some (e, r, σ')) : cTI l yX9_setEnd cX9_setEnd 8 .int 9 141 (fun ad => [.ref (ad 0), .int l1, .int l2, .int l3, .int l4, .int l5]) σ e σ' := by
  refine c_enterTI (fun ad => [some (.ref (ad 0)), some (.int l1), some (.int l2), some (.int l3), some (.int l4), some (.int l5), none, none]) hl (by decide) rfl (by decide) (by decide) (fun ad => ⟨by simp [Value.category], Nat.le_of_ble_eq_true rfl⟩) (fun ad => ⟨2, rfl⟩) ?_
  intro X hsl hX hct hthr hpr
  have hlX : (sl X).stackTraces = false := by rw [hsl]; exact hl
  have hcs : ((0 : Nat), (0 : Nat)).1 ≤ (sR X).cells ∧ ((0 : Nat), (0 : Nat)).2 ≤ (sR X).slots := ⟨Nat.zero_le _, Nat.zero_le _⟩
  replace hct : ((0 : Nat), (0 : Nat)).1 + 1 ≤ (sR X).cells ∧ ((0 : Nat), (0 : Nat)).2 + 6 ≤ (sR X).slots := hct
  generalize hcs0 : ((0 : Nat), (0 : Nat)) = cs at hcs hct hthr hpr ⊢
  unfold fX9_setEnd at h
  show sW X 8 cs σ 0 [some (.ref (sad X 0)), some (.int l1), some (.int l2), some (.int l3), some (.int l4), some (.int l5), none, none] []
  refine s_aload_n hX dX9_setEnd_0 rfl ?_
  refine s_iload_n hX dX9_setEnd_1 rfl ?_
  rcases bnT_e he h with ⟨r1, σ2, hc, h⟩ | ⟨r1, hc⟩
  · refine s_callVV _ hX (cX9_requireBlock_ok (sl X)  hc) SH_0 mv_RX9_94_8 (fun _ => rfl) (by decide) (Nat.le_of_ble_eq_true rfl) hcs dX9_setEnd_2 rfl ?_
    refine s_iload_n hX dX9_setEnd_5 rfl ?_
    refine jn_use (fun j => ∀ (σ3 : Mm), j σ3 = some (e, r, σ') → sW X 8 cs σ3 20 [some (.ref (sad X 0)), some (.int l1), some (.int l2), some (.int l3), some (.int l4), some (.int l5), none, none] []) h ?_ ?_
    · intro σ3 h
      refine s_iload_n hX dX9_setEnd_20 rfl ?_
      refine s_iconst 1 hX dX9_setEnd_21 (by decide) ?_
      refine jn_use (fun j => ∀ (σ5 : Mm), j σ5 = some (e, r, σ') → sW X 8 cs σ5 31 [some (.ref (sad X 0)), some (.int l1), some (.int l2), some (.int l3), some (.int l4), some (.int l5), none, none] []) h ?_ ?_
      · intro σ5 h
        refine s_iload_n hX dX9_setEnd_31 rfl ?_
        refine s_if_lt (tgt := 40) hX dX9_setEnd_32 (by decide) (fun c18 => ?_) (fun c18 => ?_)
        · replace h := (if_pos c18).symm.trans h
          obtain ⟨rfl, -, rfl⟩ := rt3 h
          exact hthr _ _ _ 76 127 80 _ xw_1_76_80 (List.mem_of_getElem? (i := 5) rfl) dX9_setEnd_40 dX9_setEnd_43 (Or.inl ⟨dX9_setEnd_44, dX9_setEnd_46, dX9_setEnd_49⟩) (Nat.le_of_ble_eq_true rfl)
        · replace h := (if_neg c18).symm.trans h
          refine s_iload_n hX dX9_setEnd_35 rfl ?_
          refine s_iconst 2 hX dX9_setEnd_36 (by decide) ?_
          refine s_ic_le (tgt := 50) hX dX9_setEnd_37 (by decide) (fun c17 => ?_) (fun c17 => ?_)
          · replace h := (if_pos c17).symm.trans h
            refine s_iload_n hX dX9_setEnd_50 rfl ?_
            refine jn_use (fun j => ∀ (σ7 : Mm), j σ7 = some (e, r, σ') → sW X 8 cs σ7 59 [some (.ref (sad X 0)), some (.int l1), some (.int l2), some (.int l3), some (.int l4), some (.int l5), none, none] []) h ?_ ?_
            · intro σ7 h
              refine s_aload_n hX dX9_setEnd_59 rfl ?_
              refine s_getR (r := 1) hX fo_RX9_25_8 SH_0 rfl dX9_setEnd_60 ?_
              refine s_getR (r := 2) hX fo_RX9_103_6 SH_1 rfl dX9_setEnd_63 ?_
              refine s_iload_n hX dX9_setEnd_66 rfl ?_
              obtain ⟨c9, h⟩ := gd_some h
              obtain ⟨k10, ek10, h⟩ := bd_some h
              have Bk10 : isB k10 := Or.inl ⟨_, vp_lt c9, ek10⟩
              refine s_aaldP hX c9 dX9_setEnd_67 ?_
              refine s_topr k10 ek10 ?_
              refine s_astore hX dX9_setEnd_68 (by decide) ?_
              refine s_aload hX dX9_setEnd_70 rfl ?_
              refine s_getI hX fo_RX9_132_0 (isB_0 Bk10) rfl dX9_setEnd_72 ?_
              obtain ⟨v11, ev11, h⟩ := bd_some h
              refine s_topi v11 ev11 ?_
              refine s_istore hX dX9_setEnd_75 (by decide) ?_
              refine s_aload hX dX9_setEnd_77 rfl ?_
              refine s_iload_n hX dX9_setEnd_79 rfl ?_
              refine s_iload_n hX dX9_setEnd_80 rfl ?_
              refine s_iload hX dX9_setEnd_81 rfl ?_
              refine s_iload hX dX9_setEnd_83 rfl ?_
              obtain ⟨σ12, hc, h⟩ := bn_some h
              refine s_callVV _ hX (cX0_finish_ok (sl X) Bk10 hc) (isB_0 Bk10) mv_RX9_135_0 (fun _ => rfl) (by decide) (Nat.le_of_ble_eq_true rfl) hcs dX9_setEnd_85 rfl ?_
              refine s_aload_n hX dX9_setEnd_88 rfl ?_
              obtain ⟨σ13, hc, h⟩ := bn_some h
              refine s_callVV _ hX (cX9_programChanged_ok (sl X)  hc) SH_0 mv_RX9_91_8 (fun _ => rfl) (by decide) (Nat.le_of_ble_eq_true rfl) hcs dX9_setEnd_89 rfl ?_
              refine s_iload hX dX9_setEnd_92 rfl ?_
              exact absurd (rt3 h).1 he
            · intro j8 hj8 h
              refine s_if_eq (tgt := 59) hX dX9_setEnd_51 (by decide) (fun c16 => ?_) (fun c16 => ?_)
              · replace h := (if_pos c16).symm.trans h
                refine s_mask [true, true, true, true, true, true, false, false] ?_
                exact hj8 _ h
              · replace h := (if_neg c16).symm.trans h
                refine s_aload_n hX dX9_setEnd_54 rfl ?_
                refine s_iload_n hX dX9_setEnd_55 rfl ?_
                rcases bnT_e he h with ⟨r14, σ15, hc, h⟩ | ⟨r14, hc⟩
                · refine s_callVV _ hX (cX9_requireVariable_ok (sl X)  hc) SH_0 mv_RX9_129_8 (fun _ => rfl) (by decide) (Nat.le_of_ble_eq_true rfl) hcs dX9_setEnd_56 rfl ?_
                  refine s_mask [true, true, true, true, true, true, false, false] ?_
                  exact hj8 _ h
                · exact s_callVTV _ hX (cX9_requireVariable_th (sl X) hlX  he hc) SH_0 rfl mt_RX9_129 (fun _ => rfl) (by decide) (Nat.le_of_ble_eq_true rfl) hct dX9_setEnd_56 rfl hpr
          · replace h := (if_neg c17).symm.trans h
            obtain ⟨rfl, -, rfl⟩ := rt3 h
            exact hthr _ _ _ 76 127 80 _ xw_1_76_80 (List.mem_of_getElem? (i := 5) rfl) dX9_setEnd_40 dX9_setEnd_43 (Or.inl ⟨dX9_setEnd_44, dX9_setEnd_46, dX9_setEnd_49⟩) (Nat.le_of_ble_eq_true rfl)
      · intro j6 hj6 h
        refine s_ic_ne (tgt := 31) hX dX9_setEnd_22 (by decide) (fun c21 => ?_) (fun c21 => ?_)
        · replace h := (if_neg c21).symm.trans h
          refine s_mask [true, true, true, true, true, true, false, false] ?_
          exact hj6 _ h
        · replace h := (if_pos c21).symm.trans h
          refine s_aload_n hX dX9_setEnd_25 rfl ?_
          refine s_iload hX dX9_setEnd_26 rfl ?_
          rcases bnT_e he h with ⟨r19, σ20, hc, h⟩ | ⟨r19, hc⟩
          · refine s_callVV _ hX (cX9_requireBlock_ok (sl X)  hc) SH_0 mv_RX9_94_8 (fun _ => rfl) (by decide) (Nat.le_of_ble_eq_true rfl) hcs dX9_setEnd_28 rfl ?_
            refine s_mask [true, true, true, true, true, true, false, false] ?_
            exact hj6 _ h
          · exact s_callVTV _ hX (cX9_requireBlock_th (sl X) hlX  he hc) SH_0 rfl mt_RX9_94 (fun _ => rfl) (by decide) (Nat.le_of_ble_eq_true rfl) hct dX9_setEnd_28 rfl hpr
    · intro j4 hj4 h
      refine s_if_eq (tgt := 14) hX dX9_setEnd_6 (by decide) (fun c27 => ?_) (fun c27 => ?_)
      · replace h := (if_pos c27).symm.trans h
        refine s_aload_n hX dX9_setEnd_14 rfl ?_
        refine s_iload hX dX9_setEnd_15 rfl ?_
        rcases bnT_e he h with ⟨r22, σ23, hc, h⟩ | ⟨r22, hc⟩
        · refine s_callVV _ hX (cX9_requireBlock_ok (sl X)  hc) SH_0 mv_RX9_94_8 (fun _ => rfl) (by decide) (Nat.le_of_ble_eq_true rfl) hcs dX9_setEnd_17 rfl ?_
          refine s_mask [true, true, true, true, true, true, false, false] ?_
          exact hj4 _ h
        · exact s_callVTV _ hX (cX9_requireBlock_th (sl X) hlX  he hc) SH_0 rfl mt_RX9_94 (fun _ => rfl) (by decide) (Nat.le_of_ble_eq_true rfl) hct dX9_setEnd_17 rfl hpr
      · replace h := (if_neg c27).symm.trans h
        refine s_iload_n hX dX9_setEnd_9 rfl ?_
        refine s_iconst 1 hX dX9_setEnd_10 (by decide) ?_
        refine s_ic_ne (tgt := 20) hX dX9_setEnd_11 (by decide) (fun c26 => ?_) (fun c26 => ?_)
        · replace h := (if_neg c26).symm.trans h
          refine s_mask [true, true, true, true, true, true, false, false] ?_
          exact hj4 _ h
        · replace h := (if_pos c26).symm.trans h
          refine s_aload_n hX dX9_setEnd_14 rfl ?_
          refine s_iload hX dX9_setEnd_15 rfl ?_
          rcases bnT_e he h with ⟨r24, σ25, hc, h⟩ | ⟨r24, hc⟩
          · refine s_callVV _ hX (cX9_requireBlock_ok (sl X)  hc) SH_0 mv_RX9_94_8 (fun _ => rfl) (by decide) (Nat.le_of_ble_eq_true rfl) hcs dX9_setEnd_17 rfl ?_
            refine s_mask [true, true, true, true, true, true, false, false] ?_
            exact hj4 _ h
          · exact s_callVTV _ hX (cX9_requireBlock_th (sl X) hlX  he hc) SH_0 rfl mt_RX9_94 (fun _ => rfl) (by decide) (Nat.le_of_ble_eq_true rfl) hct dX9_setEnd_17 rfl hpr
  · exact s_callVTV _ hX (cX9_requireBlock_th (sl X) hlX  he hc) SH_0 rfl mt_RX9_94 (fun _ => rfl) (by decide) (Nat.le_of_ble_eq_true rfl) hct dX9_setEnd_2 rfl hpr
def fX9_setFrequency (σ : Mm) (l1 : Int32) (l2 : Int32) : Option Rx :=
  bnT (fX9_requireBlock σ l1) fun r1 σ2 =>
  if l2 < 1 then
  some (1, 0, σ2)
else
  if l2 ≤ 9999 then
  gd l1 8 <|
  bd (4 + 5 * l1.toNatClampNeg) fun k4 =>
  bd (σ2 k4 9) fun v5 =>
  bd (upm σ2 k4 (upd (σ2 k4) 9 l2)) fun σ6 =>
  (fX9_programChanged σ6).bind fun σ7 =>
  some (0, v5, σ7)
else
  some (1, 0, σ2)
set_option maxHeartbeats 4000000 in
theorem cX9_setFrequency_ok (l : Launch) {σ : Mm} {l1 : Int32} {l2 : Int32} {r : Int32} {σ' : Mm}  (h : fX9_setFrequency σ l1 l2 = some (0, r, σ')) : cI l yX9_setFrequency cX9_setFrequency 5 .int 9 141 (fun ad => [.ref (ad 0), .int l1, .int l2]) σ r σ' := by
  refine c_enterI (fun ad => [some (.ref (ad 0)), some (.int l1), some (.int l2), none, none]) (by decide) (fun ad => ⟨by simp [Value.category], Nat.le_of_ble_eq_true rfl⟩) (fun ad => ⟨2, rfl⟩) ?_
  intro X _ hX hret
  have hcs : ((0 : Nat), (0 : Nat)).1 ≤ (sR X).cells ∧ ((0 : Nat), (0 : Nat)).2 ≤ (sR X).slots := ⟨Nat.zero_le _, Nat.zero_le _⟩
  generalize hcs0 : ((0 : Nat), (0 : Nat)) = cs at hcs hret ⊢
  unfold fX9_setFrequency at h
  show sW X 5 cs σ 0 [some (.ref (sad X 0)), some (.int l1), some (.int l2), none, none] []
  refine s_aload_n hX dX9_setFrequency_0 rfl ?_
  refine s_iload_n hX dX9_setFrequency_1 rfl ?_
  obtain ⟨r1, σ2, hc, h⟩ := bnT_0 h
  refine s_callVV _ hX (cX9_requireBlock_ok (sl X)  hc) SH_0 mv_RX9_94_8 (fun _ => rfl) (by decide) (Nat.le_of_ble_eq_true rfl) hcs dX9_setFrequency_2 rfl ?_
  refine s_iload_n hX dX9_setFrequency_5 rfl ?_
  refine s_iconst 1 hX dX9_setFrequency_6 (by decide) ?_
  refine s_ic_lt (tgt := 17) hX dX9_setFrequency_7 (by decide) (fun c9 => ?_) (fun c9 => ?_)
  · replace h := (if_pos c9).symm.trans h
    exact absurd (rt3 h).1 (by decide)
  · replace h := (if_neg c9).symm.trans h
    refine s_iload_n hX dX9_setFrequency_10 rfl ?_
    refine s_sipush 9999 hX dX9_setFrequency_11 (by decide) ?_
    refine s_ic_le (tgt := 27) hX dX9_setFrequency_14 (by decide) (fun c8 => ?_) (fun c8 => ?_)
    · replace h := (if_pos c8).symm.trans h
      refine s_aload_n hX dX9_setFrequency_27 rfl ?_
      refine s_getR (r := 1) hX fo_RX9_25_8 SH_0 rfl dX9_setFrequency_28 ?_
      refine s_getR (r := 2) hX fo_RX9_103_6 SH_1 rfl dX9_setFrequency_31 ?_
      refine s_iload_n hX dX9_setFrequency_34 rfl ?_
      obtain ⟨c3, h⟩ := gd_some h
      obtain ⟨k4, ek4, h⟩ := bd_some h
      have Bk4 : isB k4 := Or.inl ⟨_, vp_lt c3, ek4⟩
      refine s_aaldP hX c3 dX9_setFrequency_35 ?_
      refine s_topr k4 ek4 ?_
      refine s_astore_n hX dX9_setFrequency_36 (by decide) ?_
      refine s_aload_n hX dX9_setFrequency_37 rfl ?_
      refine s_getI hX fo_RX9_140_0 (isB_0 Bk4) rfl dX9_setFrequency_38 ?_
      obtain ⟨v5, ev5, h⟩ := bd_some h
      refine s_topi v5 ev5 ?_
      refine s_istore hX dX9_setFrequency_41 (by decide) ?_
      refine s_aload_n hX dX9_setFrequency_43 rfl ?_
      refine s_iload_n hX dX9_setFrequency_44 rfl ?_
      obtain ⟨σ6, eσ6, h⟩ := bd_some h
      refine s_putI hX fo_RX9_140_0 (isB_0 Bk4) rfl dX9_setFrequency_45 ?_
      refine s_mem σ6 eσ6 ?_
      refine s_aload_n hX dX9_setFrequency_48 rfl ?_
      obtain ⟨σ7, hc, h⟩ := bn_some h
      refine s_callVV _ hX (cX9_programChanged_ok (sl X)  hc) SH_0 mv_RX9_91_8 (fun _ => rfl) (by decide) (Nat.le_of_ble_eq_true rfl) hcs dX9_setFrequency_49 rfl ?_
      refine s_iload hX dX9_setFrequency_52 rfl ?_
      obtain ⟨-, rfl, rfl⟩ := rt3 h
      exact hret _ _ (nzi _) dX9_setFrequency_54
    · replace h := (if_neg c8).symm.trans h
      exact absurd (rt3 h).1 (by decide)
set_option maxHeartbeats 4000000 in
theorem cX9_setFrequency_th (l : Launch) (hl : l.stackTraces = false) {σ : Mm} {l1 : Int32} {l2 : Int32} {e : Nat} {r : Int32} {σ' : Mm}  (he : e ≠ 0) (h : fX9_setFrequency σ l1 l2 = some (e, r, σ')) : cTI l yX9_setFrequency cX9_setFrequency 5 .int 9 141 (fun ad => [.ref (ad 0), .int l1, .int l2]) σ e σ' := by
  refine c_enterTI (fun ad => [some (.ref (ad 0)), some (.int l1), some (.int l2), none, none]) hl (by decide) rfl (by decide) (by decide) (fun ad => ⟨by simp [Value.category], Nat.le_of_ble_eq_true rfl⟩) (fun ad => ⟨2, rfl⟩) ?_
  intro X hsl hX hct hthr hpr
  have hlX : (sl X).stackTraces = false := by rw [hsl]; exact hl
  have hcs : ((0 : Nat), (0 : Nat)).1 ≤ (sR X).cells ∧ ((0 : Nat), (0 : Nat)).2 ≤ (sR X).slots := ⟨Nat.zero_le _, Nat.zero_le _⟩
  replace hct : ((0 : Nat), (0 : Nat)).1 + 1 ≤ (sR X).cells ∧ ((0 : Nat), (0 : Nat)).2 + 6 ≤ (sR X).slots := hct
  generalize hcs0 : ((0 : Nat), (0 : Nat)) = cs at hcs hct hthr hpr ⊢
  unfold fX9_setFrequency at h
  show sW X 5 cs σ 0 [some (.ref (sad X 0)), some (.int l1), some (.int l2), none, none] []
  refine s_aload_n hX dX9_setFrequency_0 rfl ?_
  refine s_iload_n hX dX9_setFrequency_1 rfl ?_
  rcases bnT_e he h with ⟨r1, σ2, hc, h⟩ | ⟨r1, hc⟩
  · refine s_callVV _ hX (cX9_requireBlock_ok (sl X)  hc) SH_0 mv_RX9_94_8 (fun _ => rfl) (by decide) (Nat.le_of_ble_eq_true rfl) hcs dX9_setFrequency_2 rfl ?_
    refine s_iload_n hX dX9_setFrequency_5 rfl ?_
    refine s_iconst 1 hX dX9_setFrequency_6 (by decide) ?_
    refine s_ic_lt (tgt := 17) hX dX9_setFrequency_7 (by decide) (fun c9 => ?_) (fun c9 => ?_)
    · replace h := (if_pos c9).symm.trans h
      obtain ⟨rfl, -, rfl⟩ := rt3 h
      exact hthr _ _ _ 76 138 80 _ xw_1_76_80 (List.mem_of_getElem? (i := 7) rfl) dX9_setFrequency_17 dX9_setFrequency_20 (Or.inl ⟨dX9_setFrequency_21, dX9_setFrequency_23, dX9_setFrequency_26⟩) (Nat.le_of_ble_eq_true rfl)
    · replace h := (if_neg c9).symm.trans h
      refine s_iload_n hX dX9_setFrequency_10 rfl ?_
      refine s_sipush 9999 hX dX9_setFrequency_11 (by decide) ?_
      refine s_ic_le (tgt := 27) hX dX9_setFrequency_14 (by decide) (fun c8 => ?_) (fun c8 => ?_)
      · replace h := (if_pos c8).symm.trans h
        refine s_aload_n hX dX9_setFrequency_27 rfl ?_
        refine s_getR (r := 1) hX fo_RX9_25_8 SH_0 rfl dX9_setFrequency_28 ?_
        refine s_getR (r := 2) hX fo_RX9_103_6 SH_1 rfl dX9_setFrequency_31 ?_
        refine s_iload_n hX dX9_setFrequency_34 rfl ?_
        obtain ⟨c3, h⟩ := gd_some h
        obtain ⟨k4, ek4, h⟩ := bd_some h
        have Bk4 : isB k4 := Or.inl ⟨_, vp_lt c3, ek4⟩
        refine s_aaldP hX c3 dX9_setFrequency_35 ?_
        refine s_topr k4 ek4 ?_
        refine s_astore_n hX dX9_setFrequency_36 (by decide) ?_
        refine s_aload_n hX dX9_setFrequency_37 rfl ?_
        refine s_getI hX fo_RX9_140_0 (isB_0 Bk4) rfl dX9_setFrequency_38 ?_
        obtain ⟨v5, ev5, h⟩ := bd_some h
        refine s_topi v5 ev5 ?_
        refine s_istore hX dX9_setFrequency_41 (by decide) ?_
        refine s_aload_n hX dX9_setFrequency_43 rfl ?_
        refine s_iload_n hX dX9_setFrequency_44 rfl ?_
        obtain ⟨σ6, eσ6, h⟩ := bd_some h
        refine s_putI hX fo_RX9_140_0 (isB_0 Bk4) rfl dX9_setFrequency_45 ?_
        refine s_mem σ6 eσ6 ?_
        refine s_aload_n hX dX9_setFrequency_48 rfl ?_
        obtain ⟨σ7, hc, h⟩ := bn_some h
        refine s_callVV _ hX (cX9_programChanged_ok (sl X)  hc) SH_0 mv_RX9_91_8 (fun _ => rfl) (by decide) (Nat.le_of_ble_eq_true rfl) hcs dX9_setFrequency_49 rfl ?_
        refine s_iload hX dX9_setFrequency_52 rfl ?_
        exact absurd (rt3 h).1 he
      · replace h := (if_neg c8).symm.trans h
        obtain ⟨rfl, -, rfl⟩ := rt3 h
        exact hthr _ _ _ 76 138 80 _ xw_1_76_80 (List.mem_of_getElem? (i := 7) rfl) dX9_setFrequency_17 dX9_setFrequency_20 (Or.inl ⟨dX9_setFrequency_21, dX9_setFrequency_23, dX9_setFrequency_26⟩) (Nat.le_of_ble_eq_true rfl)
  · exact s_callVTV _ hX (cX9_requireBlock_th (sl X) hlX  he hc) SH_0 rfl mt_RX9_94 (fun _ => rfl) (by decide) (Nat.le_of_ble_eq_true rfl) hct dX9_setFrequency_2 rfl hpr
def fX9_setInitial (σ : Mm) (l1 : Int32) (l2 : Int32) : Option Rx :=
  bnT (fX9_requireVariable σ l1) fun r1 σ2 =>
  gd l1 12 <|
  bd (σ2 3 l1.toNatClampNeg) fun v4 =>
  gd l1 12 <|
  bd (upm σ2 3 (upd (σ2 3) l1.toNatClampNeg l2)) fun σ6 =>
  (fX9_programChanged σ6).bind fun σ7 =>
  some (0, v4, σ7)
set_option maxHeartbeats 4000000 in
theorem cX9_setInitial_ok (l : Launch) {σ : Mm} {l1 : Int32} {l2 : Int32} {r : Int32} {σ' : Mm}  (h : fX9_setInitial σ l1 l2 = some (0, r, σ')) : cI l yX9_setInitial cX9_setInitial 4 .int 9 141 (fun ad => [.ref (ad 0), .int l1, .int l2]) σ r σ' := by
  refine c_enterI (fun ad => [some (.ref (ad 0)), some (.int l1), some (.int l2), none]) (by decide) (fun ad => ⟨by simp [Value.category], Nat.le_of_ble_eq_true rfl⟩) (fun ad => ⟨1, rfl⟩) ?_
  intro X _ hX hret
  have hcs : ((0 : Nat), (0 : Nat)).1 ≤ (sR X).cells ∧ ((0 : Nat), (0 : Nat)).2 ≤ (sR X).slots := ⟨Nat.zero_le _, Nat.zero_le _⟩
  generalize hcs0 : ((0 : Nat), (0 : Nat)) = cs at hcs hret ⊢
  unfold fX9_setInitial at h
  show sW X 4 cs σ 0 [some (.ref (sad X 0)), some (.int l1), some (.int l2), none] []
  refine s_aload_n hX dX9_setInitial_0 rfl ?_
  refine s_iload_n hX dX9_setInitial_1 rfl ?_
  obtain ⟨r1, σ2, hc, h⟩ := bnT_0 h
  refine s_callVV _ hX (cX9_requireVariable_ok (sl X)  hc) SH_0 mv_RX9_129_8 (fun _ => rfl) (by decide) (Nat.le_of_ble_eq_true rfl) hcs dX9_setInitial_2 rfl ?_
  refine s_aload_n hX dX9_setInitial_5 rfl ?_
  refine s_getR (r := 1) hX fo_RX9_25_8 SH_0 rfl dX9_setInitial_6 ?_
  refine s_getR (r := 3) hX fo_RX9_143_6 SH_1 rfl dX9_setInitial_9 ?_
  refine s_iload_n hX dX9_setInitial_12 rfl ?_
  obtain ⟨c3, h⟩ := gd_some h
  refine s_iald hX SH_3 c3 dX9_setInitial_13 ?_
  obtain ⟨v4, ev4, h⟩ := bd_some h
  refine s_topi v4 ev4 ?_
  refine s_istore_n hX dX9_setInitial_14 (by decide) ?_
  refine s_aload_n hX dX9_setInitial_15 rfl ?_
  refine s_getR (r := 1) hX fo_RX9_25_8 SH_0 rfl dX9_setInitial_16 ?_
  refine s_getR (r := 3) hX fo_RX9_143_6 SH_1 rfl dX9_setInitial_19 ?_
  refine s_iload_n hX dX9_setInitial_22 rfl ?_
  refine s_iload_n hX dX9_setInitial_23 rfl ?_
  obtain ⟨c5, h⟩ := gd_some h
  obtain ⟨σ6, eσ6, h⟩ := bd_some h
  refine s_iast hX SH_3 c5 dX9_setInitial_24 ?_
  refine s_mem σ6 eσ6 ?_
  refine s_aload_n hX dX9_setInitial_25 rfl ?_
  obtain ⟨σ7, hc, h⟩ := bn_some h
  refine s_callVV _ hX (cX9_programChanged_ok (sl X)  hc) SH_0 mv_RX9_91_8 (fun _ => rfl) (by decide) (Nat.le_of_ble_eq_true rfl) hcs dX9_setInitial_26 rfl ?_
  refine s_iload_n hX dX9_setInitial_29 rfl ?_
  obtain ⟨-, rfl, rfl⟩ := rt3 h
  exact hret _ _ (nzi _) dX9_setInitial_30
set_option maxHeartbeats 4000000 in
theorem cX9_setInitial_th (l : Launch) (hl : l.stackTraces = false) {σ : Mm} {l1 : Int32} {l2 : Int32} {e : Nat} {r : Int32} {σ' : Mm}  (he : e ≠ 0) (h : fX9_setInitial σ l1 l2 = some (e, r, σ')) : cTI l yX9_setInitial cX9_setInitial 4 .int 9 141 (fun ad => [.ref (ad 0), .int l1, .int l2]) σ e σ' := by
  refine c_enterTI (fun ad => [some (.ref (ad 0)), some (.int l1), some (.int l2), none]) hl (by decide) rfl (by decide) (by decide) (fun ad => ⟨by simp [Value.category], Nat.le_of_ble_eq_true rfl⟩) (fun ad => ⟨1, rfl⟩) ?_
  intro X hsl hX hct hthr hpr
  have hlX : (sl X).stackTraces = false := by rw [hsl]; exact hl
  have hcs : ((0 : Nat), (0 : Nat)).1 ≤ (sR X).cells ∧ ((0 : Nat), (0 : Nat)).2 ≤ (sR X).slots := ⟨Nat.zero_le _, Nat.zero_le _⟩
  replace hct : ((0 : Nat), (0 : Nat)).1 + 1 ≤ (sR X).cells ∧ ((0 : Nat), (0 : Nat)).2 + 6 ≤ (sR X).slots := hct
  generalize hcs0 : ((0 : Nat), (0 : Nat)) = cs at hcs hct hthr hpr ⊢
  unfold fX9_setInitial at h
  show sW X 4 cs σ 0 [some (.ref (sad X 0)), some (.int l1), some (.int l2), none] []
  refine s_aload_n hX dX9_setInitial_0 rfl ?_
  refine s_iload_n hX dX9_setInitial_1 rfl ?_
  rcases bnT_e he h with ⟨r1, σ2, hc, h⟩ | ⟨r1, hc⟩
  · refine s_callVV _ hX (cX9_requireVariable_ok (sl X)  hc) SH_0 mv_RX9_129_8 (fun _ => rfl) (by decide) (Nat.le_of_ble_eq_true rfl) hcs dX9_setInitial_2 rfl ?_
    refine s_aload_n hX dX9_setInitial_5 rfl ?_
    refine s_getR (r := 1) hX fo_RX9_25_8 SH_0 rfl dX9_setInitial_6 ?_
    refine s_getR (r := 3) hX fo_RX9_143_6 SH_1 rfl dX9_setInitial_9 ?_
    refine s_iload_n hX dX9_setInitial_12 rfl ?_
    obtain ⟨c3, h⟩ := gd_some h
    refine s_iald hX SH_3 c3 dX9_setInitial_13 ?_
    obtain ⟨v4, ev4, h⟩ := bd_some h
    refine s_topi v4 ev4 ?_
    refine s_istore_n hX dX9_setInitial_14 (by decide) ?_
    refine s_aload_n hX dX9_setInitial_15 rfl ?_
    refine s_getR (r := 1) hX fo_RX9_25_8 SH_0 rfl dX9_setInitial_16 ?_
    refine s_getR (r := 3) hX fo_RX9_143_6 SH_1 rfl dX9_setInitial_19 ?_
    refine s_iload_n hX dX9_setInitial_22 rfl ?_
    refine s_iload_n hX dX9_setInitial_23 rfl ?_
    obtain ⟨c5, h⟩ := gd_some h
    obtain ⟨σ6, eσ6, h⟩ := bd_some h
    refine s_iast hX SH_3 c5 dX9_setInitial_24 ?_
    refine s_mem σ6 eσ6 ?_
    refine s_aload_n hX dX9_setInitial_25 rfl ?_
    obtain ⟨σ7, hc, h⟩ := bn_some h
    refine s_callVV _ hX (cX9_programChanged_ok (sl X)  hc) SH_0 mv_RX9_91_8 (fun _ => rfl) (by decide) (Nat.le_of_ble_eq_true rfl) hcs dX9_setInitial_26 rfl ?_
    refine s_iload_n hX dX9_setInitial_29 rfl ?_
    exact absurd (rt3 h).1 he
  · exact s_callVTV _ hX (cX9_requireVariable_th (sl X) hlX  he hc) SH_0 rfl mt_RX9_129 (fun _ => rfl) (by decide) (Nat.le_of_ble_eq_true rfl) hct dX9_setInitial_2 rfl hpr
def fX9_instruction (σ : Mm) (l1 : Int32) (l2 : Int32) (l3 : Int32) : Option Rx :=
  bnT (fX9_requireBlock σ l1) fun r1 σ2 =>
  gd l1 8 <|
  bd (4 + 5 * l1.toNatClampNeg) fun k4 =>
  if l2 < 0 then
  some (2, 0, σ2)
else
  if l2 < (σ2 k4 4) then
  if l3 = 0 then
  gd l2 8 <|
  some (0, σ2 (k4 + 1) l2.toNatClampNeg, σ2)
else if l3 = 1 then
  gd l2 8 <|
  some (0, σ2 (k4 + 2) l2.toNatClampNeg, σ2)
else if l3 = 2 then
  gd l2 8 <|
  some (0, σ2 (k4 + 3) l2.toNatClampNeg, σ2)
else if l3 = 3 then
  gd l2 8 <|
  some (0, σ2 (k4 + 4) l2.toNatClampNeg, σ2)
else 
  some (1, 0, σ2)
else
  some (2, 0, σ2)
set_option maxHeartbeats 4000000 in
theorem cX9_instruction_ok (l : Launch) {σ : Mm} {l1 : Int32} {l2 : Int32} {l3 : Int32} {r : Int32} {σ' : Mm}  (h : fX9_instruction σ l1 l2 l3 = some (0, r, σ')) : cI l yX9_instruction cX9_instruction 5 .int 9 141 (fun ad => [.ref (ad 0), .int l1, .int l2, .int l3]) σ r σ' := by
  refine c_enterI (fun ad => [some (.ref (ad 0)), some (.int l1), some (.int l2), some (.int l3), none]) (by decide) (fun ad => ⟨by simp [Value.category], Nat.le_of_ble_eq_true rfl⟩) (fun ad => ⟨1, rfl⟩) ?_
  intro X _ hX hret
  have hcs : ((0 : Nat), (0 : Nat)).1 ≤ (sR X).cells ∧ ((0 : Nat), (0 : Nat)).2 ≤ (sR X).slots := ⟨Nat.zero_le _, Nat.zero_le _⟩
  generalize hcs0 : ((0 : Nat), (0 : Nat)) = cs at hcs hret ⊢
  unfold fX9_instruction at h
  show sW X 5 cs σ 0 [some (.ref (sad X 0)), some (.int l1), some (.int l2), some (.int l3), none] []
  refine s_aload_n hX dX9_instruction_0 rfl ?_
  refine s_iload_n hX dX9_instruction_1 rfl ?_
  obtain ⟨r1, σ2, hc, h⟩ := bnT_0 h
  refine s_callVV _ hX (cX9_requireBlock_ok (sl X)  hc) SH_0 mv_RX9_94_8 (fun _ => rfl) (by decide) (Nat.le_of_ble_eq_true rfl) hcs dX9_instruction_2 rfl ?_
  refine s_aload_n hX dX9_instruction_5 rfl ?_
  refine s_getR (r := 1) hX fo_RX9_25_8 SH_0 rfl dX9_instruction_6 ?_
  refine s_getR (r := 2) hX fo_RX9_103_6 SH_1 rfl dX9_instruction_9 ?_
  refine s_iload_n hX dX9_instruction_12 rfl ?_
  obtain ⟨c3, h⟩ := gd_some h
  obtain ⟨k4, ek4, h⟩ := bd_some h
  have Bk4 : isB k4 := Or.inl ⟨_, vp_lt c3, ek4⟩
  refine s_aaldP hX c3 dX9_instruction_13 ?_
  refine s_topr k4 ek4 ?_
  refine s_astore hX dX9_instruction_14 (by decide) ?_
  refine s_iload_n hX dX9_instruction_16 rfl ?_
  refine s_if_lt (tgt := 29) hX dX9_instruction_17 (by decide) (fun c14 => ?_) (fun c14 => ?_)
  · replace h := (if_pos c14).symm.trans h
    exact absurd (rt3 h).1 (by decide)
  · replace h := (if_neg c14).symm.trans h
    refine s_iload_n hX dX9_instruction_20 rfl ?_
    refine s_aload hX dX9_instruction_21 rfl ?_
    refine s_getI hX fo_RX9_107_0 (isB_0 Bk4) rfl dX9_instruction_23 ?_
    refine s_ic_lt (tgt := 39) hX dX9_instruction_26 (by decide) (fun c13 => ?_) (fun c13 => ?_)
    · replace h := (if_pos c13).symm.trans h
      refine s_iload_n hX dX9_instruction_39 rfl ?_
      by_cases c6 : l3 = 0
      · replace h := (if_pos c6).symm.trans h
        refine s_tswIn (tgt := 72) hX dX9_instruction_40 (v := 0) c6 (by decide) (by decide) rfl (by decide) ?_
        refine s_aload hX dX9_instruction_72 rfl ?_
        refine s_getR (r := k4 + 1) hX fo_RX9_124_0 (isB_0 Bk4) rfl dX9_instruction_74 ?_
        refine s_iload_n hX dX9_instruction_77 rfl ?_
        obtain ⟨c5, h⟩ := gd_some h
        refine s_iald hX (isB_r Bk4).1 c5 dX9_instruction_78 ?_
        obtain ⟨-, rfl, rfl⟩ := rt3 h
        exact hret _ _ (nzi _) dX9_instruction_79
      · replace h := (if_neg c6).symm.trans h
        by_cases c8 : l3 = 1
        · replace h := (if_pos c8).symm.trans h
          refine s_tswIn (tgt := 80) hX dX9_instruction_40 (v := 1) c8 (by decide) (by decide) rfl (by decide) ?_
          refine s_aload hX dX9_instruction_80 rfl ?_
          refine s_getR (r := k4 + 2) hX fo_RX9_149_0 (isB_0 Bk4) rfl dX9_instruction_82 ?_
          refine s_iload_n hX dX9_instruction_85 rfl ?_
          obtain ⟨c7, h⟩ := gd_some h
          refine s_iald hX (isB_r Bk4).2.1 c7 dX9_instruction_86 ?_
          obtain ⟨-, rfl, rfl⟩ := rt3 h
          exact hret _ _ (nzi _) dX9_instruction_87
        · replace h := (if_neg c8).symm.trans h
          by_cases c10 : l3 = 2
          · replace h := (if_pos c10).symm.trans h
            refine s_tswIn (tgt := 88) hX dX9_instruction_40 (v := 2) c10 (by decide) (by decide) rfl (by decide) ?_
            refine s_aload hX dX9_instruction_88 rfl ?_
            refine s_getR (r := k4 + 3) hX fo_RX9_152_0 (isB_0 Bk4) rfl dX9_instruction_90 ?_
            refine s_iload_n hX dX9_instruction_93 rfl ?_
            obtain ⟨c9, h⟩ := gd_some h
            refine s_iald hX (isB_r Bk4).2.2.1 c9 dX9_instruction_94 ?_
            obtain ⟨-, rfl, rfl⟩ := rt3 h
            exact hret _ _ (nzi _) dX9_instruction_95
          · replace h := (if_neg c10).symm.trans h
            by_cases c12 : l3 = 3
            · replace h := (if_pos c12).symm.trans h
              refine s_tswIn (tgt := 96) hX dX9_instruction_40 (v := 3) c12 (by decide) (by decide) rfl (by decide) ?_
              refine s_aload hX dX9_instruction_96 rfl ?_
              refine s_getR (r := k4 + 4) hX fo_RX9_155_0 (isB_0 Bk4) rfl dX9_instruction_98 ?_
              refine s_iload_n hX dX9_instruction_101 rfl ?_
              obtain ⟨c11, h⟩ := gd_some h
              refine s_iald hX (isB_r Bk4).2.2.2 c11 dX9_instruction_102 ?_
              obtain ⟨-, rfl, rfl⟩ := rt3 h
              exact hret _ _ (nzi _) dX9_instruction_103
            · replace h := (if_neg c12).symm.trans h
              refine s_tswOut (tgt := 104) hX dX9_instruction_40 (tsw_out0_3 l3 c6 c8 c10 c12) (by decide) ?_
              exact absurd (rt3 h).1 (by decide)
    · replace h := (if_neg c13).symm.trans h
      exact absurd (rt3 h).1 (by decide)
set_option maxHeartbeats 4000000 in
theorem cX9_instruction_th (l : Launch) (hl : l.stackTraces = false) {σ : Mm} {l1 : Int32} {l2 : Int32} {l3 : Int32} {e : Nat} {r : Int32} {σ' : Mm}  (he : e ≠ 0) (h : fX9_instruction σ l1 l2 l3 = some (e, r, σ')) : cTI l yX9_instruction cX9_instruction 5 .int 9 141 (fun ad => [.ref (ad 0), .int l1, .int l2, .int l3]) σ e σ' := by
  refine c_enterTI (fun ad => [some (.ref (ad 0)), some (.int l1), some (.int l2), some (.int l3), none]) hl (by decide) rfl (by decide) (by decide) (fun ad => ⟨by simp [Value.category], Nat.le_of_ble_eq_true rfl⟩) (fun ad => ⟨1, rfl⟩) ?_
  intro X hsl hX hct hthr hpr
  have hlX : (sl X).stackTraces = false := by rw [hsl]; exact hl
  have hcs : ((0 : Nat), (0 : Nat)).1 ≤ (sR X).cells ∧ ((0 : Nat), (0 : Nat)).2 ≤ (sR X).slots := ⟨Nat.zero_le _, Nat.zero_le _⟩
  replace hct : ((0 : Nat), (0 : Nat)).1 + 1 ≤ (sR X).cells ∧ ((0 : Nat), (0 : Nat)).2 + 6 ≤ (sR X).slots := hct
  generalize hcs0 : ((0 : Nat), (0 : Nat)) = cs at hcs hct hthr hpr ⊢
  unfold fX9_instruction at h
  show sW X 5 cs σ 0 [some (.ref (sad X 0)), some (.int l1), some (.int l2), some (.int l3), none] []
  refine s_aload_n hX dX9_instruction_0 rfl ?_
  refine s_iload_n hX dX9_instruction_1 rfl ?_
  rcases bnT_e he h with ⟨r1, σ2, hc, h⟩ | ⟨r1, hc⟩
  · refine s_callVV _ hX (cX9_requireBlock_ok (sl X)  hc) SH_0 mv_RX9_94_8 (fun _ => rfl) (by decide) (Nat.le_of_ble_eq_true rfl) hcs dX9_instruction_2 rfl ?_
    refine s_aload_n hX dX9_instruction_5 rfl ?_
    refine s_getR (r := 1) hX fo_RX9_25_8 SH_0 rfl dX9_instruction_6 ?_
    refine s_getR (r := 2) hX fo_RX9_103_6 SH_1 rfl dX9_instruction_9 ?_
    refine s_iload_n hX dX9_instruction_12 rfl ?_
    obtain ⟨c3, h⟩ := gd_some h
    obtain ⟨k4, ek4, h⟩ := bd_some h
    have Bk4 : isB k4 := Or.inl ⟨_, vp_lt c3, ek4⟩
    refine s_aaldP hX c3 dX9_instruction_13 ?_
    refine s_topr k4 ek4 ?_
    refine s_astore hX dX9_instruction_14 (by decide) ?_
    refine s_iload_n hX dX9_instruction_16 rfl ?_
    refine s_if_lt (tgt := 29) hX dX9_instruction_17 (by decide) (fun c14 => ?_) (fun c14 => ?_)
    · replace h := (if_pos c14).symm.trans h
      obtain ⟨rfl, -, rfl⟩ := rt3 h
      exact hthr _ _ _ 146 101 148 _ xw_2_146_148 (List.mem_of_getElem? (i := 2) rfl) dX9_instruction_29 dX9_instruction_32 (Or.inl ⟨dX9_instruction_33, dX9_instruction_35, dX9_instruction_38⟩) (Nat.le_of_ble_eq_true rfl)
    · replace h := (if_neg c14).symm.trans h
      refine s_iload_n hX dX9_instruction_20 rfl ?_
      refine s_aload hX dX9_instruction_21 rfl ?_
      refine s_getI hX fo_RX9_107_0 (isB_0 Bk4) rfl dX9_instruction_23 ?_
      refine s_ic_lt (tgt := 39) hX dX9_instruction_26 (by decide) (fun c13 => ?_) (fun c13 => ?_)
      · replace h := (if_pos c13).symm.trans h
        refine s_iload_n hX dX9_instruction_39 rfl ?_
        by_cases c6 : l3 = 0
        · replace h := (if_pos c6).symm.trans h
          refine s_tswIn (tgt := 72) hX dX9_instruction_40 (v := 0) c6 (by decide) (by decide) rfl (by decide) ?_
          refine s_aload hX dX9_instruction_72 rfl ?_
          refine s_getR (r := k4 + 1) hX fo_RX9_124_0 (isB_0 Bk4) rfl dX9_instruction_74 ?_
          refine s_iload_n hX dX9_instruction_77 rfl ?_
          obtain ⟨c5, h⟩ := gd_some h
          refine s_iald hX (isB_r Bk4).1 c5 dX9_instruction_78 ?_
          exact absurd (rt3 h).1 he
        · replace h := (if_neg c6).symm.trans h
          by_cases c8 : l3 = 1
          · replace h := (if_pos c8).symm.trans h
            refine s_tswIn (tgt := 80) hX dX9_instruction_40 (v := 1) c8 (by decide) (by decide) rfl (by decide) ?_
            refine s_aload hX dX9_instruction_80 rfl ?_
            refine s_getR (r := k4 + 2) hX fo_RX9_149_0 (isB_0 Bk4) rfl dX9_instruction_82 ?_
            refine s_iload_n hX dX9_instruction_85 rfl ?_
            obtain ⟨c7, h⟩ := gd_some h
            refine s_iald hX (isB_r Bk4).2.1 c7 dX9_instruction_86 ?_
            exact absurd (rt3 h).1 he
          · replace h := (if_neg c8).symm.trans h
            by_cases c10 : l3 = 2
            · replace h := (if_pos c10).symm.trans h
              refine s_tswIn (tgt := 88) hX dX9_instruction_40 (v := 2) c10 (by decide) (by decide) rfl (by decide) ?_
              refine s_aload hX dX9_instruction_88 rfl ?_
              refine s_getR (r := k4 + 3) hX fo_RX9_152_0 (isB_0 Bk4) rfl dX9_instruction_90 ?_
              refine s_iload_n hX dX9_instruction_93 rfl ?_
              obtain ⟨c9, h⟩ := gd_some h
              refine s_iald hX (isB_r Bk4).2.2.1 c9 dX9_instruction_94 ?_
              exact absurd (rt3 h).1 he
            · replace h := (if_neg c10).symm.trans h
              by_cases c12 : l3 = 3
              · replace h := (if_pos c12).symm.trans h
                refine s_tswIn (tgt := 96) hX dX9_instruction_40 (v := 3) c12 (by decide) (by decide) rfl (by decide) ?_
                refine s_aload hX dX9_instruction_96 rfl ?_
                refine s_getR (r := k4 + 4) hX fo_RX9_155_0 (isB_0 Bk4) rfl dX9_instruction_98 ?_
                refine s_iload_n hX dX9_instruction_101 rfl ?_
                obtain ⟨c11, h⟩ := gd_some h
                refine s_iald hX (isB_r Bk4).2.2.2 c11 dX9_instruction_102 ?_
                exact absurd (rt3 h).1 he
              · replace h := (if_neg c12).symm.trans h
                refine s_tswOut (tgt := 104) hX dX9_instruction_40 (tsw_out0_3 l3 c6 c8 c10 c12) (by decide) ?_
                obtain ⟨rfl, -, rfl⟩ := rt3 h
                exact hthr _ _ _ 76 158 80 _ xw_1_76_80 (List.mem_of_getElem? (i := 8) rfl) dX9_instruction_104 dX9_instruction_107 (Or.inl ⟨dX9_instruction_108, dX9_instruction_110, dX9_instruction_113⟩) (Nat.le_of_ble_eq_true rfl)
      · replace h := (if_neg c13).symm.trans h
        obtain ⟨rfl, -, rfl⟩ := rt3 h
        exact hthr _ _ _ 146 101 148 _ xw_2_146_148 (List.mem_of_getElem? (i := 2) rfl) dX9_instruction_29 dX9_instruction_32 (Or.inl ⟨dX9_instruction_33, dX9_instruction_35, dX9_instruction_38⟩) (Nat.le_of_ble_eq_true rfl)
  · exact s_callVTV _ hX (cX9_requireBlock_th (sl X) hlX  he hc) SH_0 rfl mt_RX9_94 (fun _ => rfl) (by decide) (Nat.le_of_ble_eq_true rfl) hct dX9_instruction_2 rfl hpr
def fX9_block (σ : Mm) (l1 : Int32) (l2 : Int32) : Option Rx :=
  bnT (fX9_requireBlock σ l1) fun r1 σ2 =>
  gd l1 8 <|
  bd (4 + 5 * l1.toNatClampNeg) fun k4 =>
  if l2 = 0 then
  some (0, σ2 k4 4, σ2)
else if l2 = 1 then
  some (0, σ2 k4 5, σ2)
else if l2 = 2 then
  some (0, σ2 k4 6, σ2)
else if l2 = 3 then
  some (0, σ2 k4 7, σ2)
else if l2 = 4 then
  some (0, σ2 k4 8, σ2)
else if l2 = 5 then
  some (0, σ2 k4 9, σ2)
else 
  some (1, 0, σ2)
set_option maxHeartbeats 4000000 in
theorem cX9_block_ok (l : Launch) {σ : Mm} {l1 : Int32} {l2 : Int32} {r : Int32} {σ' : Mm}  (h : fX9_block σ l1 l2 = some (0, r, σ')) : cI l yX9_block cX9_block 4 .int 9 141 (fun ad => [.ref (ad 0), .int l1, .int l2]) σ r σ' := by
  refine c_enterI (fun ad => [some (.ref (ad 0)), some (.int l1), some (.int l2), none]) (by decide) (fun ad => ⟨by simp [Value.category], Nat.le_of_ble_eq_true rfl⟩) (fun ad => ⟨1, rfl⟩) ?_
  intro X _ hX hret
  have hcs : ((0 : Nat), (0 : Nat)).1 ≤ (sR X).cells ∧ ((0 : Nat), (0 : Nat)).2 ≤ (sR X).slots := ⟨Nat.zero_le _, Nat.zero_le _⟩
  generalize hcs0 : ((0 : Nat), (0 : Nat)) = cs at hcs hret ⊢
  unfold fX9_block at h
  show sW X 4 cs σ 0 [some (.ref (sad X 0)), some (.int l1), some (.int l2), none] []
  refine s_aload_n hX dX9_block_0 rfl ?_
  refine s_iload_n hX dX9_block_1 rfl ?_
  obtain ⟨r1, σ2, hc, h⟩ := bnT_0 h
  refine s_callVV _ hX (cX9_requireBlock_ok (sl X)  hc) SH_0 mv_RX9_94_8 (fun _ => rfl) (by decide) (Nat.le_of_ble_eq_true rfl) hcs dX9_block_2 rfl ?_
  refine s_aload_n hX dX9_block_5 rfl ?_
  refine s_getR (r := 1) hX fo_RX9_25_8 SH_0 rfl dX9_block_6 ?_
  refine s_getR (r := 2) hX fo_RX9_103_6 SH_1 rfl dX9_block_9 ?_
  refine s_iload_n hX dX9_block_12 rfl ?_
  obtain ⟨c3, h⟩ := gd_some h
  obtain ⟨k4, ek4, h⟩ := bd_some h
  have Bk4 : isB k4 := Or.inl ⟨_, vp_lt c3, ek4⟩
  refine s_aaldP hX c3 dX9_block_13 ?_
  refine s_topr k4 ek4 ?_
  refine s_astore_n hX dX9_block_14 (by decide) ?_
  refine s_iload_n hX dX9_block_15 rfl ?_
  by_cases c5 : l2 = 0
  · replace h := (if_pos c5).symm.trans h
    refine s_tswIn (tgt := 56) hX dX9_block_16 (v := 0) c5 (by decide) (by decide) rfl (by decide) ?_
    refine s_aload_n hX dX9_block_56 rfl ?_
    refine s_getI hX fo_RX9_107_0 (isB_0 Bk4) rfl dX9_block_57 ?_
    obtain ⟨-, rfl, rfl⟩ := rt3 h
    exact hret _ _ (nzi _) dX9_block_60
  · replace h := (if_neg c5).symm.trans h
    by_cases c6 : l2 = 1
    · replace h := (if_pos c6).symm.trans h
      refine s_tswIn (tgt := 61) hX dX9_block_16 (v := 1) c6 (by decide) (by decide) rfl (by decide) ?_
      refine s_aload_n hX dX9_block_61 rfl ?_
      refine s_getI hX fo_RX9_132_0 (isB_0 Bk4) rfl dX9_block_62 ?_
      obtain ⟨-, rfl, rfl⟩ := rt3 h
      exact hret _ _ (nzi _) dX9_block_65
    · replace h := (if_neg c6).symm.trans h
      by_cases c7 : l2 = 2
      · replace h := (if_pos c7).symm.trans h
        refine s_tswIn (tgt := 66) hX dX9_block_16 (v := 2) c7 (by decide) (by decide) rfl (by decide) ?_
        refine s_aload_n hX dX9_block_66 rfl ?_
        refine s_getI hX fo_RX9_160_0 (isB_0 Bk4) rfl dX9_block_67 ?_
        obtain ⟨-, rfl, rfl⟩ := rt3 h
        exact hret _ _ (nzi _) dX9_block_70
      · replace h := (if_neg c7).symm.trans h
        by_cases c8 : l2 = 3
        · replace h := (if_pos c8).symm.trans h
          refine s_tswIn (tgt := 71) hX dX9_block_16 (v := 3) c8 (by decide) (by decide) rfl (by decide) ?_
          refine s_aload_n hX dX9_block_71 rfl ?_
          refine s_getI hX fo_RX9_163_0 (isB_0 Bk4) rfl dX9_block_72 ?_
          obtain ⟨-, rfl, rfl⟩ := rt3 h
          exact hret _ _ (nzi _) dX9_block_75
        · replace h := (if_neg c8).symm.trans h
          by_cases c9 : l2 = 4
          · replace h := (if_pos c9).symm.trans h
            refine s_tswIn (tgt := 76) hX dX9_block_16 (v := 4) c9 (by decide) (by decide) rfl (by decide) ?_
            refine s_aload_n hX dX9_block_76 rfl ?_
            refine s_getI hX fo_RX9_166_0 (isB_0 Bk4) rfl dX9_block_77 ?_
            obtain ⟨-, rfl, rfl⟩ := rt3 h
            exact hret _ _ (nzi _) dX9_block_80
          · replace h := (if_neg c9).symm.trans h
            by_cases c10 : l2 = 5
            · replace h := (if_pos c10).symm.trans h
              refine s_tswIn (tgt := 81) hX dX9_block_16 (v := 5) c10 (by decide) (by decide) rfl (by decide) ?_
              refine s_aload_n hX dX9_block_81 rfl ?_
              refine s_getI hX fo_RX9_140_0 (isB_0 Bk4) rfl dX9_block_82 ?_
              obtain ⟨-, rfl, rfl⟩ := rt3 h
              exact hret _ _ (nzi _) dX9_block_85
            · replace h := (if_neg c10).symm.trans h
              refine s_tswOut (tgt := 86) hX dX9_block_16 (tsw_out0_5 l2 c5 c6 c7 c8 c9 c10) (by decide) ?_
              exact absurd (rt3 h).1 (by decide)
set_option maxHeartbeats 4000000 in
theorem cX9_block_th (l : Launch) (hl : l.stackTraces = false) {σ : Mm} {l1 : Int32} {l2 : Int32} {e : Nat} {r : Int32} {σ' : Mm}  (he : e ≠ 0) (h : fX9_block σ l1 l2 = some (e, r, σ')) : cTI l yX9_block cX9_block 4 .int 9 141 (fun ad => [.ref (ad 0), .int l1, .int l2]) σ e σ' := by
  refine c_enterTI (fun ad => [some (.ref (ad 0)), some (.int l1), some (.int l2), none]) hl (by decide) rfl (by decide) (by decide) (fun ad => ⟨by simp [Value.category], Nat.le_of_ble_eq_true rfl⟩) (fun ad => ⟨1, rfl⟩) ?_
  intro X hsl hX hct hthr hpr
  have hlX : (sl X).stackTraces = false := by rw [hsl]; exact hl
  have hcs : ((0 : Nat), (0 : Nat)).1 ≤ (sR X).cells ∧ ((0 : Nat), (0 : Nat)).2 ≤ (sR X).slots := ⟨Nat.zero_le _, Nat.zero_le _⟩
  replace hct : ((0 : Nat), (0 : Nat)).1 + 1 ≤ (sR X).cells ∧ ((0 : Nat), (0 : Nat)).2 + 6 ≤ (sR X).slots := hct
  generalize hcs0 : ((0 : Nat), (0 : Nat)) = cs at hcs hct hthr hpr ⊢
  unfold fX9_block at h
  show sW X 4 cs σ 0 [some (.ref (sad X 0)), some (.int l1), some (.int l2), none] []
  refine s_aload_n hX dX9_block_0 rfl ?_
  refine s_iload_n hX dX9_block_1 rfl ?_
  rcases bnT_e he h with ⟨r1, σ2, hc, h⟩ | ⟨r1, hc⟩
  · refine s_callVV _ hX (cX9_requireBlock_ok (sl X)  hc) SH_0 mv_RX9_94_8 (fun _ => rfl) (by decide) (Nat.le_of_ble_eq_true rfl) hcs dX9_block_2 rfl ?_
    refine s_aload_n hX dX9_block_5 rfl ?_
    refine s_getR (r := 1) hX fo_RX9_25_8 SH_0 rfl dX9_block_6 ?_
    refine s_getR (r := 2) hX fo_RX9_103_6 SH_1 rfl dX9_block_9 ?_
    refine s_iload_n hX dX9_block_12 rfl ?_
    obtain ⟨c3, h⟩ := gd_some h
    obtain ⟨k4, ek4, h⟩ := bd_some h
    have Bk4 : isB k4 := Or.inl ⟨_, vp_lt c3, ek4⟩
    refine s_aaldP hX c3 dX9_block_13 ?_
    refine s_topr k4 ek4 ?_
    refine s_astore_n hX dX9_block_14 (by decide) ?_
    refine s_iload_n hX dX9_block_15 rfl ?_
    by_cases c5 : l2 = 0
    · replace h := (if_pos c5).symm.trans h
      refine s_tswIn (tgt := 56) hX dX9_block_16 (v := 0) c5 (by decide) (by decide) rfl (by decide) ?_
      refine s_aload_n hX dX9_block_56 rfl ?_
      refine s_getI hX fo_RX9_107_0 (isB_0 Bk4) rfl dX9_block_57 ?_
      exact absurd (rt3 h).1 he
    · replace h := (if_neg c5).symm.trans h
      by_cases c6 : l2 = 1
      · replace h := (if_pos c6).symm.trans h
        refine s_tswIn (tgt := 61) hX dX9_block_16 (v := 1) c6 (by decide) (by decide) rfl (by decide) ?_
        refine s_aload_n hX dX9_block_61 rfl ?_
        refine s_getI hX fo_RX9_132_0 (isB_0 Bk4) rfl dX9_block_62 ?_
        exact absurd (rt3 h).1 he
      · replace h := (if_neg c6).symm.trans h
        by_cases c7 : l2 = 2
        · replace h := (if_pos c7).symm.trans h
          refine s_tswIn (tgt := 66) hX dX9_block_16 (v := 2) c7 (by decide) (by decide) rfl (by decide) ?_
          refine s_aload_n hX dX9_block_66 rfl ?_
          refine s_getI hX fo_RX9_160_0 (isB_0 Bk4) rfl dX9_block_67 ?_
          exact absurd (rt3 h).1 he
        · replace h := (if_neg c7).symm.trans h
          by_cases c8 : l2 = 3
          · replace h := (if_pos c8).symm.trans h
            refine s_tswIn (tgt := 71) hX dX9_block_16 (v := 3) c8 (by decide) (by decide) rfl (by decide) ?_
            refine s_aload_n hX dX9_block_71 rfl ?_
            refine s_getI hX fo_RX9_163_0 (isB_0 Bk4) rfl dX9_block_72 ?_
            exact absurd (rt3 h).1 he
          · replace h := (if_neg c8).symm.trans h
            by_cases c9 : l2 = 4
            · replace h := (if_pos c9).symm.trans h
              refine s_tswIn (tgt := 76) hX dX9_block_16 (v := 4) c9 (by decide) (by decide) rfl (by decide) ?_
              refine s_aload_n hX dX9_block_76 rfl ?_
              refine s_getI hX fo_RX9_166_0 (isB_0 Bk4) rfl dX9_block_77 ?_
              exact absurd (rt3 h).1 he
            · replace h := (if_neg c9).symm.trans h
              by_cases c10 : l2 = 5
              · replace h := (if_pos c10).symm.trans h
                refine s_tswIn (tgt := 81) hX dX9_block_16 (v := 5) c10 (by decide) (by decide) rfl (by decide) ?_
                refine s_aload_n hX dX9_block_81 rfl ?_
                refine s_getI hX fo_RX9_140_0 (isB_0 Bk4) rfl dX9_block_82 ?_
                exact absurd (rt3 h).1 he
              · replace h := (if_neg c10).symm.trans h
                refine s_tswOut (tgt := 86) hX dX9_block_16 (tsw_out0_5 l2 c5 c6 c7 c8 c9 c10) (by decide) ?_
                obtain ⟨rfl, -, rfl⟩ := rt3 h
                exact hthr _ _ _ 76 169 80 _ xw_1_76_80 (List.mem_of_getElem? (i := 9) rfl) dX9_block_86 dX9_block_89 (Or.inl ⟨dX9_block_90, dX9_block_92, dX9_block_95⟩) (Nat.le_of_ble_eq_true rfl)
  · exact s_callVTV _ hX (cX9_requireBlock_th (sl X) hlX  he hc) SH_0 rfl mt_RX9_94 (fun _ => rfl) (by decide) (Nat.le_of_ble_eq_true rfl) hct dX9_block_2 rfl hpr
def fX9_live (σ : Mm) (l1 : Int32) (l2 : Int32) : Option Rx :=
  bnT (fX9_requireBlock σ l1) fun r1 σ2 =>
  if l2 < 0 then
  some (2, 0, σ2)
else
  gd l1 8 <|
  bd (4 + 5 * l1.toNatClampNeg) fun k4 =>
  if l2 ≤ (σ2 k4 4) then
  (fX9_analyse σ2).bind fun σ5 =>
  gd ((l1 * 9) + l2) 72 <|
  some (0, σ5 88 ((l1 * 9) + l2).toNatClampNeg, σ5)
else
  some (2, 0, σ2)
set_option maxHeartbeats 4000000 in
theorem cX9_live_ok (l : Launch) {σ : Mm} {l1 : Int32} {l2 : Int32} {r : Int32} {σ' : Mm}  (h : fX9_live σ l1 l2 = some (0, r, σ')) : cI l yX9_live cX9_live 3 .int 9 141 (fun ad => [.ref (ad 0), .int l1, .int l2]) σ r σ' := by
  refine c_enterI (fun ad => [some (.ref (ad 0)), some (.int l1), some (.int l2)]) (by decide) (fun ad => ⟨by simp [Value.category], Nat.le_of_ble_eq_true rfl⟩) (fun ad => ⟨0, rfl⟩) ?_
  intro X _ hX hret
  have hcs : ((0 : Nat), (0 : Nat)).1 ≤ (sR X).cells ∧ ((0 : Nat), (0 : Nat)).2 ≤ (sR X).slots := ⟨Nat.zero_le _, Nat.zero_le _⟩
  generalize hcs0 : ((0 : Nat), (0 : Nat)) = cs at hcs hret ⊢
  unfold fX9_live at h
  show sW X 3 cs σ 0 [some (.ref (sad X 0)), some (.int l1), some (.int l2)] []
  refine s_aload_n hX dX9_live_0 rfl ?_
  refine s_iload_n hX dX9_live_1 rfl ?_
  obtain ⟨r1, σ2, hc, h⟩ := bnT_0 h
  refine s_callVV _ hX (cX9_requireBlock_ok (sl X)  hc) SH_0 mv_RX9_94_8 (fun _ => rfl) (by decide) (Nat.le_of_ble_eq_true rfl) hcs dX9_live_2 rfl ?_
  refine s_iload_n hX dX9_live_5 rfl ?_
  refine s_if_lt (tgt := 25) hX dX9_live_6 (by decide) (fun c8 => ?_) (fun c8 => ?_)
  · replace h := (if_pos c8).symm.trans h
    exact absurd (rt3 h).1 (by decide)
  · replace h := (if_neg c8).symm.trans h
    refine s_iload_n hX dX9_live_9 rfl ?_
    refine s_aload_n hX dX9_live_10 rfl ?_
    refine s_getR (r := 1) hX fo_RX9_25_8 SH_0 rfl dX9_live_11 ?_
    refine s_getR (r := 2) hX fo_RX9_103_6 SH_1 rfl dX9_live_14 ?_
    refine s_iload_n hX dX9_live_17 rfl ?_
    obtain ⟨c3, h⟩ := gd_some h
    obtain ⟨k4, ek4, h⟩ := bd_some h
    have Bk4 : isB k4 := Or.inl ⟨_, vp_lt c3, ek4⟩
    refine s_aaldP hX c3 dX9_live_18 ?_
    refine s_topr k4 ek4 ?_
    refine s_getI hX fo_RX9_107_0 (isB_0 Bk4) rfl dX9_live_19 ?_
    refine s_ic_le (tgt := 35) hX dX9_live_22 (by decide) (fun c7 => ?_) (fun c7 => ?_)
    · replace h := (if_pos c7).symm.trans h
      refine s_aload_n hX dX9_live_35 rfl ?_
      obtain ⟨σ5, hc, h⟩ := bn_some h
      refine s_callVV _ hX (cX9_analyse_ok (sl X)  hc) SH_0 mv_RX9_173_8 (fun _ => rfl) (by decide) (Nat.le_of_ble_eq_true rfl) hcs dX9_live_36 rfl ?_
      refine s_aload_n hX dX9_live_39 rfl ?_
      refine s_getR (r := 87) hX fo_RX9_32_8 SH_0 rfl dX9_live_40 ?_
      refine s_getR (r := 88) hX fo_RX9_176_1 SH_87 rfl dX9_live_43 ?_
      refine s_iload_n hX dX9_live_46 rfl ?_
      refine s_bipush 9 hX dX9_live_47 (by decide) ?_
      refine s_imul hX dX9_live_49 ?_
      refine s_iload_n hX dX9_live_50 rfl ?_
      refine s_iadd hX dX9_live_51 ?_
      obtain ⟨c6, h⟩ := gd_some h
      refine s_iald hX SH_88 c6 dX9_live_52 ?_
      obtain ⟨-, rfl, rfl⟩ := rt3 h
      exact hret _ _ (nzi _) dX9_live_53
    · replace h := (if_neg c7).symm.trans h
      exact absurd (rt3 h).1 (by decide)
set_option maxHeartbeats 4000000 in
theorem cX9_live_th (l : Launch) (hl : l.stackTraces = false) {σ : Mm} {l1 : Int32} {l2 : Int32} {e : Nat} {r : Int32} {σ' : Mm}  (he : e ≠ 0) (h : fX9_live σ l1 l2 = some (e, r, σ')) : cTI l yX9_live cX9_live 3 .int 9 141 (fun ad => [.ref (ad 0), .int l1, .int l2]) σ e σ' := by
  refine c_enterTI (fun ad => [some (.ref (ad 0)), some (.int l1), some (.int l2)]) hl (by decide) rfl (by decide) (by decide) (fun ad => ⟨by simp [Value.category], Nat.le_of_ble_eq_true rfl⟩) (fun ad => ⟨0, rfl⟩) ?_
  intro X hsl hX hct hthr hpr
  have hlX : (sl X).stackTraces = false := by rw [hsl]; exact hl
  have hcs : ((0 : Nat), (0 : Nat)).1 ≤ (sR X).cells ∧ ((0 : Nat), (0 : Nat)).2 ≤ (sR X).slots := ⟨Nat.zero_le _, Nat.zero_le _⟩
  replace hct : ((0 : Nat), (0 : Nat)).1 + 1 ≤ (sR X).cells ∧ ((0 : Nat), (0 : Nat)).2 + 6 ≤ (sR X).slots := hct
  generalize hcs0 : ((0 : Nat), (0 : Nat)) = cs at hcs hct hthr hpr ⊢
  unfold fX9_live at h
  show sW X 3 cs σ 0 [some (.ref (sad X 0)), some (.int l1), some (.int l2)] []
  refine s_aload_n hX dX9_live_0 rfl ?_
  refine s_iload_n hX dX9_live_1 rfl ?_
  rcases bnT_e he h with ⟨r1, σ2, hc, h⟩ | ⟨r1, hc⟩
  · refine s_callVV _ hX (cX9_requireBlock_ok (sl X)  hc) SH_0 mv_RX9_94_8 (fun _ => rfl) (by decide) (Nat.le_of_ble_eq_true rfl) hcs dX9_live_2 rfl ?_
    refine s_iload_n hX dX9_live_5 rfl ?_
    refine s_if_lt (tgt := 25) hX dX9_live_6 (by decide) (fun c8 => ?_) (fun c8 => ?_)
    · replace h := (if_pos c8).symm.trans h
      obtain ⟨rfl, -, rfl⟩ := rt3 h
      exact hthr _ _ _ 146 171 148 _ xw_2_146_148 (List.mem_of_getElem? (i := 10) rfl) dX9_live_25 dX9_live_28 (Or.inl ⟨dX9_live_29, dX9_live_31, dX9_live_34⟩) (Nat.le_of_ble_eq_true rfl)
    · replace h := (if_neg c8).symm.trans h
      refine s_iload_n hX dX9_live_9 rfl ?_
      refine s_aload_n hX dX9_live_10 rfl ?_
      refine s_getR (r := 1) hX fo_RX9_25_8 SH_0 rfl dX9_live_11 ?_
      refine s_getR (r := 2) hX fo_RX9_103_6 SH_1 rfl dX9_live_14 ?_
      refine s_iload_n hX dX9_live_17 rfl ?_
      obtain ⟨c3, h⟩ := gd_some h
      obtain ⟨k4, ek4, h⟩ := bd_some h
      have Bk4 : isB k4 := Or.inl ⟨_, vp_lt c3, ek4⟩
      refine s_aaldP hX c3 dX9_live_18 ?_
      refine s_topr k4 ek4 ?_
      refine s_getI hX fo_RX9_107_0 (isB_0 Bk4) rfl dX9_live_19 ?_
      refine s_ic_le (tgt := 35) hX dX9_live_22 (by decide) (fun c7 => ?_) (fun c7 => ?_)
      · replace h := (if_pos c7).symm.trans h
        refine s_aload_n hX dX9_live_35 rfl ?_
        obtain ⟨σ5, hc, h⟩ := bn_some h
        refine s_callVV _ hX (cX9_analyse_ok (sl X)  hc) SH_0 mv_RX9_173_8 (fun _ => rfl) (by decide) (Nat.le_of_ble_eq_true rfl) hcs dX9_live_36 rfl ?_
        refine s_aload_n hX dX9_live_39 rfl ?_
        refine s_getR (r := 87) hX fo_RX9_32_8 SH_0 rfl dX9_live_40 ?_
        refine s_getR (r := 88) hX fo_RX9_176_1 SH_87 rfl dX9_live_43 ?_
        refine s_iload_n hX dX9_live_46 rfl ?_
        refine s_bipush 9 hX dX9_live_47 (by decide) ?_
        refine s_imul hX dX9_live_49 ?_
        refine s_iload_n hX dX9_live_50 rfl ?_
        refine s_iadd hX dX9_live_51 ?_
        obtain ⟨c6, h⟩ := gd_some h
        refine s_iald hX SH_88 c6 dX9_live_52 ?_
        exact absurd (rt3 h).1 he
      · replace h := (if_neg c7).symm.trans h
        obtain ⟨rfl, -, rfl⟩ := rt3 h
        exact hthr _ _ _ 146 171 148 _ xw_2_146_148 (List.mem_of_getElem? (i := 10) rfl) dX9_live_25 dX9_live_28 (Or.inl ⟨dX9_live_29, dX9_live_31, dX9_live_34⟩) (Nat.le_of_ble_eq_true rfl)
  · exact s_callVTV _ hX (cX9_requireBlock_th (sl X) hlX  he hc) SH_0 rfl mt_RX9_94 (fun _ => rfl) (by decide) (Nat.le_of_ble_eq_true rfl) hct dX9_live_2 rfl hpr
def fX9_conflicts (σ : Mm) (l1 : Int32) : Option Rx :=
  bnT (fX9_requireVariable σ l1) fun r1 σ2 =>
  (fX9_analyse σ2).bind fun σ3 =>
  gd l1 12 <|
  some (0, σ3 91 l1.toNatClampNeg, σ3)
set_option maxHeartbeats 4000000 in
theorem cX9_conflicts_ok (l : Launch) {σ : Mm} {l1 : Int32} {r : Int32} {σ' : Mm}  (h : fX9_conflicts σ l1 = some (0, r, σ')) : cI l yX9_conflicts cX9_conflicts 2 .int 9 141 (fun ad => [.ref (ad 0), .int l1]) σ r σ' := by
  refine c_enterI (fun ad => [some (.ref (ad 0)), some (.int l1)]) (by decide) (fun ad => ⟨by simp [Value.category], Nat.le_of_ble_eq_true rfl⟩) (fun ad => ⟨0, rfl⟩) ?_
  intro X _ hX hret
  have hcs : ((0 : Nat), (0 : Nat)).1 ≤ (sR X).cells ∧ ((0 : Nat), (0 : Nat)).2 ≤ (sR X).slots := ⟨Nat.zero_le _, Nat.zero_le _⟩
  generalize hcs0 : ((0 : Nat), (0 : Nat)) = cs at hcs hret ⊢
  unfold fX9_conflicts at h
  show sW X 2 cs σ 0 [some (.ref (sad X 0)), some (.int l1)] []
  refine s_aload_n hX dX9_conflicts_0 rfl ?_
  refine s_iload_n hX dX9_conflicts_1 rfl ?_
  obtain ⟨r1, σ2, hc, h⟩ := bnT_0 h
  refine s_callVV _ hX (cX9_requireVariable_ok (sl X)  hc) SH_0 mv_RX9_129_8 (fun _ => rfl) (by decide) (Nat.le_of_ble_eq_true rfl) hcs dX9_conflicts_2 rfl ?_
  refine s_aload_n hX dX9_conflicts_5 rfl ?_
  obtain ⟨σ3, hc, h⟩ := bn_some h
  refine s_callVV _ hX (cX9_analyse_ok (sl X)  hc) SH_0 mv_RX9_173_8 (fun _ => rfl) (by decide) (Nat.le_of_ble_eq_true rfl) hcs dX9_conflicts_6 rfl ?_
  refine s_aload_n hX dX9_conflicts_9 rfl ?_
  refine s_getR (r := 87) hX fo_RX9_32_8 SH_0 rfl dX9_conflicts_10 ?_
  refine s_getR (r := 91) hX fo_RX9_179_1 SH_87 rfl dX9_conflicts_13 ?_
  refine s_iload_n hX dX9_conflicts_16 rfl ?_
  obtain ⟨c4, h⟩ := gd_some h
  refine s_iald hX SH_91 c4 dX9_conflicts_17 ?_
  obtain ⟨-, rfl, rfl⟩ := rt3 h
  exact hret _ _ (nzi _) dX9_conflicts_18
set_option maxHeartbeats 4000000 in
theorem cX9_conflicts_th (l : Launch) (hl : l.stackTraces = false) {σ : Mm} {l1 : Int32} {e : Nat} {r : Int32} {σ' : Mm}  (he : e ≠ 0) (h : fX9_conflicts σ l1 = some (e, r, σ')) : cTI l yX9_conflicts cX9_conflicts 2 .int 9 141 (fun ad => [.ref (ad 0), .int l1]) σ e σ' := by
  refine c_enterTI (fun ad => [some (.ref (ad 0)), some (.int l1)]) hl (by decide) rfl (by decide) (by decide) (fun ad => ⟨by simp [Value.category], Nat.le_of_ble_eq_true rfl⟩) (fun ad => ⟨0, rfl⟩) ?_
  intro X hsl hX hct hthr hpr
  have hlX : (sl X).stackTraces = false := by rw [hsl]; exact hl
  have hcs : ((0 : Nat), (0 : Nat)).1 ≤ (sR X).cells ∧ ((0 : Nat), (0 : Nat)).2 ≤ (sR X).slots := ⟨Nat.zero_le _, Nat.zero_le _⟩
  replace hct : ((0 : Nat), (0 : Nat)).1 + 1 ≤ (sR X).cells ∧ ((0 : Nat), (0 : Nat)).2 + 6 ≤ (sR X).slots := hct
  generalize hcs0 : ((0 : Nat), (0 : Nat)) = cs at hcs hct hthr hpr ⊢
  unfold fX9_conflicts at h
  show sW X 2 cs σ 0 [some (.ref (sad X 0)), some (.int l1)] []
  refine s_aload_n hX dX9_conflicts_0 rfl ?_
  refine s_iload_n hX dX9_conflicts_1 rfl ?_
  rcases bnT_e he h with ⟨r1, σ2, hc, h⟩ | ⟨r1, hc⟩
  · refine s_callVV _ hX (cX9_requireVariable_ok (sl X)  hc) SH_0 mv_RX9_129_8 (fun _ => rfl) (by decide) (Nat.le_of_ble_eq_true rfl) hcs dX9_conflicts_2 rfl ?_
    refine s_aload_n hX dX9_conflicts_5 rfl ?_
    obtain ⟨σ3, hc, h⟩ := bn_some h
    refine s_callVV _ hX (cX9_analyse_ok (sl X)  hc) SH_0 mv_RX9_173_8 (fun _ => rfl) (by decide) (Nat.le_of_ble_eq_true rfl) hcs dX9_conflicts_6 rfl ?_
    refine s_aload_n hX dX9_conflicts_9 rfl ?_
    refine s_getR (r := 87) hX fo_RX9_32_8 SH_0 rfl dX9_conflicts_10 ?_
    refine s_getR (r := 91) hX fo_RX9_179_1 SH_87 rfl dX9_conflicts_13 ?_
    refine s_iload_n hX dX9_conflicts_16 rfl ?_
    obtain ⟨c4, h⟩ := gd_some h
    refine s_iald hX SH_91 c4 dX9_conflicts_17 ?_
    exact absurd (rt3 h).1 he
  · exact s_callVTV _ hX (cX9_requireVariable_th (sl X) hlX  he hc) SH_0 rfl mt_RX9_129 (fun _ => rfl) (by decide) (Nat.le_of_ble_eq_true rfl) hct dX9_conflicts_2 rfl hpr
def fX9_requireLoop (σ : Mm) (l1 : Int32) : Option Rx :=
  (fX9_analyse σ).bind fun σ1 =>
  if l1 < 0 then
  some (2, 0, σ1)
else
  if l1 < (σ1 94 3) then
  some (0, 0, σ1)
else
  some (2, 0, σ1)
set_option maxHeartbeats 4000000 in
theorem cX9_requireLoop_ok (l : Launch) {σ : Mm} {l1 : Int32} {r : Int32} {σ' : Mm}  (h : fX9_requireLoop σ l1 = some (0, r, σ')) : cV l yX9_requireLoop cX9_requireLoop 2 8 120 (fun ad => [.ref (ad 0), .int l1]) σ σ' := by
  refine c_enterV (fun ad => [some (.ref (ad 0)), some (.int l1)]) (by decide) (fun ad => ⟨by simp [Value.category], Nat.le_of_ble_eq_true rfl⟩) (fun ad => ⟨0, rfl⟩) ?_
  intro X _ hX hret
  have hcs : ((0 : Nat), (0 : Nat)).1 ≤ (sR X).cells ∧ ((0 : Nat), (0 : Nat)).2 ≤ (sR X).slots := ⟨Nat.zero_le _, Nat.zero_le _⟩
  generalize hcs0 : ((0 : Nat), (0 : Nat)) = cs at hcs hret ⊢
  unfold fX9_requireLoop at h
  show sW X 2 cs σ 0 [some (.ref (sad X 0)), some (.int l1)] []
  refine s_aload_n hX dX9_requireLoop_0 rfl ?_
  obtain ⟨σ1, hc, h⟩ := bn_some h
  refine s_callVV _ hX (cX9_analyse_ok (sl X)  hc) SH_0 mv_RX9_173_8 (fun _ => rfl) (by decide) (Nat.le_of_ble_eq_true rfl) hcs dX9_requireLoop_1 rfl ?_
  refine s_iload_n hX dX9_requireLoop_4 rfl ?_
  refine s_if_lt (tgt := 19) hX dX9_requireLoop_5 (by decide) (fun c3 => ?_) (fun c3 => ?_)
  · replace h := (if_pos c3).symm.trans h
    exact absurd (rt3 h).1 (by decide)
  · replace h := (if_neg c3).symm.trans h
    refine s_iload_n hX dX9_requireLoop_8 rfl ?_
    refine s_aload_n hX dX9_requireLoop_9 rfl ?_
    refine s_getR (r := 94) hX fo_RX9_36_8 SH_0 rfl dX9_requireLoop_10 ?_
    refine s_getI hX fo_RX9_186_2 SH_94 rfl dX9_requireLoop_13 ?_
    refine s_ic_lt (tgt := 30) hX dX9_requireLoop_16 (by decide) (fun c2 => ?_) (fun c2 => ?_)
    · replace h := (if_pos c2).symm.trans h
      obtain ⟨-, -, rfl⟩ := rt3 h
      exact hret _ _ dX9_requireLoop_30
    · replace h := (if_neg c2).symm.trans h
      exact absurd (rt3 h).1 (by decide)
set_option maxHeartbeats 4000000 in
theorem cX9_requireLoop_th (l : Launch) (hl : l.stackTraces = false) {σ : Mm} {l1 : Int32} {e : Nat} {r : Int32} {σ' : Mm}  (he : e ≠ 0) (h : fX9_requireLoop σ l1 = some (e, r, σ')) : cTV l yX9_requireLoop cX9_requireLoop 2 8 120 (fun ad => [.ref (ad 0), .int l1]) σ e σ' := by
  refine c_enterTV (fun ad => [some (.ref (ad 0)), some (.int l1)]) hl (by decide) rfl (by decide) (by decide) (fun ad => ⟨by simp [Value.category], Nat.le_of_ble_eq_true rfl⟩) (fun ad => ⟨0, rfl⟩) ?_
  intro X hsl hX hct hthr hpr
  have hlX : (sl X).stackTraces = false := by rw [hsl]; exact hl
  have hcs : ((0 : Nat), (0 : Nat)).1 ≤ (sR X).cells ∧ ((0 : Nat), (0 : Nat)).2 ≤ (sR X).slots := ⟨Nat.zero_le _, Nat.zero_le _⟩
  replace hct : ((0 : Nat), (0 : Nat)).1 + 1 ≤ (sR X).cells ∧ ((0 : Nat), (0 : Nat)).2 + 6 ≤ (sR X).slots := hct
  generalize hcs0 : ((0 : Nat), (0 : Nat)) = cs at hcs hct hthr hpr ⊢
  unfold fX9_requireLoop at h
  show sW X 2 cs σ 0 [some (.ref (sad X 0)), some (.int l1)] []
  refine s_aload_n hX dX9_requireLoop_0 rfl ?_
  obtain ⟨σ1, hc, h⟩ := bn_some h
  refine s_callVV _ hX (cX9_analyse_ok (sl X)  hc) SH_0 mv_RX9_173_8 (fun _ => rfl) (by decide) (Nat.le_of_ble_eq_true rfl) hcs dX9_requireLoop_1 rfl ?_
  refine s_iload_n hX dX9_requireLoop_4 rfl ?_
  refine s_if_lt (tgt := 19) hX dX9_requireLoop_5 (by decide) (fun c3 => ?_) (fun c3 => ?_)
  · replace h := (if_pos c3).symm.trans h
    obtain ⟨rfl, -, rfl⟩ := rt3 h
    exact hthr _ _ _ 146 370 148 _ xw_2_146_148 (List.mem_of_getElem? (i := 11) rfl) dX9_requireLoop_19 dX9_requireLoop_22 (Or.inr ⟨by decide, dX9_requireLoop_23, dX9_requireLoop_26, dX9_requireLoop_29⟩) (Nat.le_of_ble_eq_true rfl)
  · replace h := (if_neg c3).symm.trans h
    refine s_iload_n hX dX9_requireLoop_8 rfl ?_
    refine s_aload_n hX dX9_requireLoop_9 rfl ?_
    refine s_getR (r := 94) hX fo_RX9_36_8 SH_0 rfl dX9_requireLoop_10 ?_
    refine s_getI hX fo_RX9_186_2 SH_94 rfl dX9_requireLoop_13 ?_
    refine s_ic_lt (tgt := 30) hX dX9_requireLoop_16 (by decide) (fun c2 => ?_) (fun c2 => ?_)
    · replace h := (if_pos c2).symm.trans h
      exact absurd (rt3 h).1 he
    · replace h := (if_neg c2).symm.trans h
      obtain ⟨rfl, -, rfl⟩ := rt3 h
      exact hthr _ _ _ 146 370 148 _ xw_2_146_148 (List.mem_of_getElem? (i := 11) rfl) dX9_requireLoop_19 dX9_requireLoop_22 (Or.inr ⟨by decide, dX9_requireLoop_23, dX9_requireLoop_26, dX9_requireLoop_29⟩) (Nat.le_of_ble_eq_true rfl)
def fX9_loop (σ : Mm) (l1 : Int32) (l2 : Int32) : Option Rx :=
  bnT (fX9_requireLoop σ l1) fun r1 σ2 =>
  if l2 = 0 then
  gd l1 8 <|
  some (0, σ2 95 l1.toNatClampNeg, σ2)
else if l2 = 1 then
  gd l1 8 <|
  some (0, σ2 96 l1.toNatClampNeg, σ2)
else if l2 = 2 then
  (fX2_depth σ2 l1).bind fun r7 =>
  some (0, r7, σ2)
else 
  some (1, 0, σ2)
set_option maxHeartbeats 4000000 in
theorem cX9_loop_ok (l : Launch) {σ : Mm} {l1 : Int32} {l2 : Int32} {r : Int32} {σ' : Mm}  (h : fX9_loop σ l1 l2 = some (0, r, σ')) : cI l yX9_loop cX9_loop 3 .int 9 141 (fun ad => [.ref (ad 0), .int l1, .int l2]) σ r σ' := by
  refine c_enterI (fun ad => [some (.ref (ad 0)), some (.int l1), some (.int l2)]) (by decide) (fun ad => ⟨by simp [Value.category], Nat.le_of_ble_eq_true rfl⟩) (fun ad => ⟨0, rfl⟩) ?_
  intro X _ hX hret
  have hcs : ((0 : Nat), (0 : Nat)).1 ≤ (sR X).cells ∧ ((0 : Nat), (0 : Nat)).2 ≤ (sR X).slots := ⟨Nat.zero_le _, Nat.zero_le _⟩
  generalize hcs0 : ((0 : Nat), (0 : Nat)) = cs at hcs hret ⊢
  unfold fX9_loop at h
  show sW X 3 cs σ 0 [some (.ref (sad X 0)), some (.int l1), some (.int l2)] []
  refine s_aload_n hX dX9_loop_0 rfl ?_
  refine s_iload_n hX dX9_loop_1 rfl ?_
  obtain ⟨r1, σ2, hc, h⟩ := bnT_0 h
  refine s_callVV _ hX (cX9_requireLoop_ok (sl X)  hc) SH_0 mv_RX9_189_8 (fun _ => rfl) (by decide) (Nat.le_of_ble_eq_true rfl) hcs dX9_loop_2 rfl ?_
  refine s_iload_n hX dX9_loop_5 rfl ?_
  by_cases c4 : l2 = 0
  · replace h := (if_pos c4).symm.trans h
    refine s_tswIn (tgt := 32) hX dX9_loop_6 (v := 0) c4 (by decide) (by decide) rfl (by decide) ?_
    refine s_aload_n hX dX9_loop_32 rfl ?_
    refine s_getR (r := 94) hX fo_RX9_36_8 SH_0 rfl dX9_loop_33 ?_
    refine s_getR (r := 95) hX fo_RX9_192_2 SH_94 rfl dX9_loop_36 ?_
    refine s_iload_n hX dX9_loop_39 rfl ?_
    obtain ⟨c3, h⟩ := gd_some h
    refine s_iald hX SH_95 c3 dX9_loop_40 ?_
    obtain ⟨-, rfl, rfl⟩ := rt3 h
    exact hret _ _ (nzi _) dX9_loop_41
  · replace h := (if_neg c4).symm.trans h
    by_cases c6 : l2 = 1
    · replace h := (if_pos c6).symm.trans h
      refine s_tswIn (tgt := 42) hX dX9_loop_6 (v := 1) c6 (by decide) (by decide) rfl (by decide) ?_
      refine s_aload_n hX dX9_loop_42 rfl ?_
      refine s_getR (r := 94) hX fo_RX9_36_8 SH_0 rfl dX9_loop_43 ?_
      refine s_getR (r := 96) hX fo_RX9_195_2 SH_94 rfl dX9_loop_46 ?_
      refine s_iload_n hX dX9_loop_49 rfl ?_
      obtain ⟨c5, h⟩ := gd_some h
      refine s_iald hX SH_96 c5 dX9_loop_50 ?_
      obtain ⟨-, rfl, rfl⟩ := rt3 h
      exact hret _ _ (nzi _) dX9_loop_51
    · replace h := (if_neg c6).symm.trans h
      by_cases c8 : l2 = 2
      · replace h := (if_pos c8).symm.trans h
        refine s_tswIn (tgt := 52) hX dX9_loop_6 (v := 2) c8 (by decide) (by decide) rfl (by decide) ?_
        refine s_aload_n hX dX9_loop_52 rfl ?_
        refine s_getR (r := 94) hX fo_RX9_36_8 SH_0 rfl dX9_loop_53 ?_
        refine s_iload_n hX dX9_loop_56 rfl ?_
        obtain ⟨r7, hc, h⟩ := bn_some h
        refine s_callVI _ hX (cX2_depth_ok (sl X)  hc) SH_94 mv_RX9_198_2 (fun _ => rfl) (by decide) (Nat.le_of_ble_eq_true rfl) hcs dX9_loop_57 rfl ?_
        obtain ⟨-, rfl, rfl⟩ := rt3 h
        exact hret _ _ (nzi _) dX9_loop_60
      · replace h := (if_neg c8).symm.trans h
        refine s_tswOut (tgt := 61) hX dX9_loop_6 (tsw_out0_2 l2 c4 c6 c8) (by decide) ?_
        exact absurd (rt3 h).1 (by decide)
set_option maxHeartbeats 4000000 in
theorem cX9_loop_th (l : Launch) (hl : l.stackTraces = false) {σ : Mm} {l1 : Int32} {l2 : Int32} {e : Nat} {r : Int32} {σ' : Mm}  (he : e ≠ 0) (h : fX9_loop σ l1 l2 = some (e, r, σ')) : cTI l yX9_loop cX9_loop 3 .int 9 141 (fun ad => [.ref (ad 0), .int l1, .int l2]) σ e σ' := by
  refine c_enterTI (fun ad => [some (.ref (ad 0)), some (.int l1), some (.int l2)]) hl (by decide) rfl (by decide) (by decide) (fun ad => ⟨by simp [Value.category], Nat.le_of_ble_eq_true rfl⟩) (fun ad => ⟨0, rfl⟩) ?_
  intro X hsl hX hct hthr hpr
  have hlX : (sl X).stackTraces = false := by rw [hsl]; exact hl
  have hcs : ((0 : Nat), (0 : Nat)).1 ≤ (sR X).cells ∧ ((0 : Nat), (0 : Nat)).2 ≤ (sR X).slots := ⟨Nat.zero_le _, Nat.zero_le _⟩
  replace hct : ((0 : Nat), (0 : Nat)).1 + 1 ≤ (sR X).cells ∧ ((0 : Nat), (0 : Nat)).2 + 6 ≤ (sR X).slots := hct
  generalize hcs0 : ((0 : Nat), (0 : Nat)) = cs at hcs hct hthr hpr ⊢
  unfold fX9_loop at h
  show sW X 3 cs σ 0 [some (.ref (sad X 0)), some (.int l1), some (.int l2)] []
  refine s_aload_n hX dX9_loop_0 rfl ?_
  refine s_iload_n hX dX9_loop_1 rfl ?_
  rcases bnT_e he h with ⟨r1, σ2, hc, h⟩ | ⟨r1, hc⟩
  · refine s_callVV _ hX (cX9_requireLoop_ok (sl X)  hc) SH_0 mv_RX9_189_8 (fun _ => rfl) (by decide) (Nat.le_of_ble_eq_true rfl) hcs dX9_loop_2 rfl ?_
    refine s_iload_n hX dX9_loop_5 rfl ?_
    by_cases c4 : l2 = 0
    · replace h := (if_pos c4).symm.trans h
      refine s_tswIn (tgt := 32) hX dX9_loop_6 (v := 0) c4 (by decide) (by decide) rfl (by decide) ?_
      refine s_aload_n hX dX9_loop_32 rfl ?_
      refine s_getR (r := 94) hX fo_RX9_36_8 SH_0 rfl dX9_loop_33 ?_
      refine s_getR (r := 95) hX fo_RX9_192_2 SH_94 rfl dX9_loop_36 ?_
      refine s_iload_n hX dX9_loop_39 rfl ?_
      obtain ⟨c3, h⟩ := gd_some h
      refine s_iald hX SH_95 c3 dX9_loop_40 ?_
      exact absurd (rt3 h).1 he
    · replace h := (if_neg c4).symm.trans h
      by_cases c6 : l2 = 1
      · replace h := (if_pos c6).symm.trans h
        refine s_tswIn (tgt := 42) hX dX9_loop_6 (v := 1) c6 (by decide) (by decide) rfl (by decide) ?_
        refine s_aload_n hX dX9_loop_42 rfl ?_
        refine s_getR (r := 94) hX fo_RX9_36_8 SH_0 rfl dX9_loop_43 ?_
        refine s_getR (r := 96) hX fo_RX9_195_2 SH_94 rfl dX9_loop_46 ?_
        refine s_iload_n hX dX9_loop_49 rfl ?_
        obtain ⟨c5, h⟩ := gd_some h
        refine s_iald hX SH_96 c5 dX9_loop_50 ?_
        exact absurd (rt3 h).1 he
      · replace h := (if_neg c6).symm.trans h
        by_cases c8 : l2 = 2
        · replace h := (if_pos c8).symm.trans h
          refine s_tswIn (tgt := 52) hX dX9_loop_6 (v := 2) c8 (by decide) (by decide) rfl (by decide) ?_
          refine s_aload_n hX dX9_loop_52 rfl ?_
          refine s_getR (r := 94) hX fo_RX9_36_8 SH_0 rfl dX9_loop_53 ?_
          refine s_iload_n hX dX9_loop_56 rfl ?_
          obtain ⟨r7, hc, h⟩ := bn_some h
          refine s_callVI _ hX (cX2_depth_ok (sl X)  hc) SH_94 mv_RX9_198_2 (fun _ => rfl) (by decide) (Nat.le_of_ble_eq_true rfl) hcs dX9_loop_57 rfl ?_
          exact absurd (rt3 h).1 he
        · replace h := (if_neg c8).symm.trans h
          refine s_tswOut (tgt := 61) hX dX9_loop_6 (tsw_out0_2 l2 c4 c6 c8) (by decide) ?_
          obtain ⟨rfl, -, rfl⟩ := rt3 h
          exact hthr _ _ _ 76 202 80 _ xw_1_76_80 (List.mem_of_getElem? (i := 12) rfl) dX9_loop_61 dX9_loop_64 (Or.inl ⟨dX9_loop_65, dX9_loop_67, dX9_loop_70⟩) (Nat.le_of_ble_eq_true rfl)
  · exact s_callVTV _ hX (cX9_requireLoop_th (sl X) hlX  he hc) SH_0 rfl mt_RX9_189 (fun _ => rfl) (by decide) (Nat.le_of_ble_eq_true rfl) hct dX9_loop_2 rfl hpr
def fX9_cost (σ : Mm) (l1 : Int32) (l2 : Int32) : Option Rx :=
  bnT (fX9_requireVariable σ l1) fun r1 σ2 =>
  (fX9_analyse σ2).bind fun σ3 =>
  if l2 = 0 then
  (fX1_memoryCost σ3 l1).bind fun r7 =>
  some (0, r7, σ3)
else
  (fX1_canRecompute σ3 l1).bind fun r4 =>
  if r4 = 0 then
  some (5, 0, σ3)
else
  (fX1_recomputingCost σ3 l1).bind fun r5 =>
  some (0, r5, σ3)
set_option maxHeartbeats 4000000 in
theorem cX9_cost_ok (l : Launch) {σ : Mm} {l1 : Int32} {l2 : Int32} {r : Int32} {σ' : Mm}  (h : fX9_cost σ l1 l2 = some (0, r, σ')) : cI l yX9_cost cX9_cost 3 .int 9 141 (fun ad => [.ref (ad 0), .int l1, .int l2]) σ r σ' := by
  refine c_enterI (fun ad => [some (.ref (ad 0)), some (.int l1), some (.int l2)]) (by decide) (fun ad => ⟨by simp [Value.category], Nat.le_of_ble_eq_true rfl⟩) (fun ad => ⟨0, rfl⟩) ?_
  intro X _ hX hret
  have hcs : ((0 : Nat), (0 : Nat)).1 ≤ (sR X).cells ∧ ((0 : Nat), (0 : Nat)).2 ≤ (sR X).slots := ⟨Nat.zero_le _, Nat.zero_le _⟩
  generalize hcs0 : ((0 : Nat), (0 : Nat)) = cs at hcs hret ⊢
  unfold fX9_cost at h
  show sW X 3 cs σ 0 [some (.ref (sad X 0)), some (.int l1), some (.int l2)] []
  refine s_aload_n hX dX9_cost_0 rfl ?_
  refine s_iload_n hX dX9_cost_1 rfl ?_
  obtain ⟨r1, σ2, hc, h⟩ := bnT_0 h
  refine s_callVV _ hX (cX9_requireVariable_ok (sl X)  hc) SH_0 mv_RX9_129_8 (fun _ => rfl) (by decide) (Nat.le_of_ble_eq_true rfl) hcs dX9_cost_2 rfl ?_
  refine s_aload_n hX dX9_cost_5 rfl ?_
  obtain ⟨σ3, hc, h⟩ := bn_some h
  refine s_callVV _ hX (cX9_analyse_ok (sl X)  hc) SH_0 mv_RX9_173_8 (fun _ => rfl) (by decide) (Nat.le_of_ble_eq_true rfl) hcs dX9_cost_6 rfl ?_
  refine s_iload_n hX dX9_cost_9 rfl ?_
  refine s_if_ne (tgt := 22) hX dX9_cost_10 (by decide) (fun c8 => ?_) (fun c8 => ?_)
  · replace h := (if_neg c8).symm.trans h
    refine s_aload_n hX dX9_cost_22 rfl ?_
    refine s_getR (r := 87) hX fo_RX9_32_8 SH_0 rfl dX9_cost_23 ?_
    refine s_iload_n hX dX9_cost_26 rfl ?_
    obtain ⟨r4, hc, h⟩ := bn_some h
    refine s_callVI _ hX (cX1_canRecompute_ok (sl X)  hc) SH_87 mv_RX9_207_1 (fun _ => rfl) (by decide) (Nat.le_of_ble_eq_true rfl) hcs dX9_cost_27 rfl ?_
    refine s_if_ne (tgt := 43) hX dX9_cost_30 (by decide) (fun c6 => ?_) (fun c6 => ?_)
    · replace h := (if_neg c6).symm.trans h
      refine s_aload_n hX dX9_cost_43 rfl ?_
      refine s_getR (r := 87) hX fo_RX9_32_8 SH_0 rfl dX9_cost_44 ?_
      refine s_iload_n hX dX9_cost_47 rfl ?_
      obtain ⟨r5, hc, h⟩ := bn_some h
      refine s_callVI _ hX (cX1_recomputingCost_ok (sl X)  hc) SH_87 mv_RX9_216_1 (fun _ => rfl) (by decide) (Nat.le_of_ble_eq_true rfl) hcs dX9_cost_48 rfl ?_
      obtain ⟨-, rfl, rfl⟩ := rt3 h
      exact hret _ _ (nzi _) dX9_cost_51
    · replace h := (if_pos c6).symm.trans h
      exact absurd (rt3 h).1 (by decide)
  · replace h := (if_pos c8).symm.trans h
    refine s_aload_n hX dX9_cost_13 rfl ?_
    refine s_getR (r := 87) hX fo_RX9_32_8 SH_0 rfl dX9_cost_14 ?_
    refine s_iload_n hX dX9_cost_17 rfl ?_
    obtain ⟨r7, hc, h⟩ := bn_some h
    refine s_callVI _ hX (cX1_memoryCost_ok (sl X)  hc) SH_87 mv_RX9_204_1 (fun _ => rfl) (by decide) (Nat.le_of_ble_eq_true rfl) hcs dX9_cost_18 rfl ?_
    obtain ⟨-, rfl, rfl⟩ := rt3 h
    exact hret _ _ (nzi _) dX9_cost_21
set_option maxHeartbeats 4000000 in
theorem cX9_cost_th (l : Launch) (hl : l.stackTraces = false) {σ : Mm} {l1 : Int32} {l2 : Int32} {e : Nat} {r : Int32} {σ' : Mm}  (he : e ≠ 0) (h : fX9_cost σ l1 l2 = some (e, r, σ')) : cTI l yX9_cost cX9_cost 3 .int 9 141 (fun ad => [.ref (ad 0), .int l1, .int l2]) σ e σ' := by
  refine c_enterTI (fun ad => [some (.ref (ad 0)), some (.int l1), some (.int l2)]) hl (by decide) rfl (by decide) (by decide) (fun ad => ⟨by simp [Value.category], Nat.le_of_ble_eq_true rfl⟩) (fun ad => ⟨0, rfl⟩) ?_
  intro X hsl hX hct hthr hpr
  have hlX : (sl X).stackTraces = false := by rw [hsl]; exact hl
  have hcs : ((0 : Nat), (0 : Nat)).1 ≤ (sR X).cells ∧ ((0 : Nat), (0 : Nat)).2 ≤ (sR X).slots := ⟨Nat.zero_le _, Nat.zero_le _⟩
  replace hct : ((0 : Nat), (0 : Nat)).1 + 1 ≤ (sR X).cells ∧ ((0 : Nat), (0 : Nat)).2 + 6 ≤ (sR X).slots := hct
  generalize hcs0 : ((0 : Nat), (0 : Nat)) = cs at hcs hct hthr hpr ⊢
  unfold fX9_cost at h
  show sW X 3 cs σ 0 [some (.ref (sad X 0)), some (.int l1), some (.int l2)] []
  refine s_aload_n hX dX9_cost_0 rfl ?_
  refine s_iload_n hX dX9_cost_1 rfl ?_
  rcases bnT_e he h with ⟨r1, σ2, hc, h⟩ | ⟨r1, hc⟩
  · refine s_callVV _ hX (cX9_requireVariable_ok (sl X)  hc) SH_0 mv_RX9_129_8 (fun _ => rfl) (by decide) (Nat.le_of_ble_eq_true rfl) hcs dX9_cost_2 rfl ?_
    refine s_aload_n hX dX9_cost_5 rfl ?_
    obtain ⟨σ3, hc, h⟩ := bn_some h
    refine s_callVV _ hX (cX9_analyse_ok (sl X)  hc) SH_0 mv_RX9_173_8 (fun _ => rfl) (by decide) (Nat.le_of_ble_eq_true rfl) hcs dX9_cost_6 rfl ?_
    refine s_iload_n hX dX9_cost_9 rfl ?_
    refine s_if_ne (tgt := 22) hX dX9_cost_10 (by decide) (fun c8 => ?_) (fun c8 => ?_)
    · replace h := (if_neg c8).symm.trans h
      refine s_aload_n hX dX9_cost_22 rfl ?_
      refine s_getR (r := 87) hX fo_RX9_32_8 SH_0 rfl dX9_cost_23 ?_
      refine s_iload_n hX dX9_cost_26 rfl ?_
      obtain ⟨r4, hc, h⟩ := bn_some h
      refine s_callVI _ hX (cX1_canRecompute_ok (sl X)  hc) SH_87 mv_RX9_207_1 (fun _ => rfl) (by decide) (Nat.le_of_ble_eq_true rfl) hcs dX9_cost_27 rfl ?_
      refine s_if_ne (tgt := 43) hX dX9_cost_30 (by decide) (fun c6 => ?_) (fun c6 => ?_)
      · replace h := (if_neg c6).symm.trans h
        refine s_aload_n hX dX9_cost_43 rfl ?_
        refine s_getR (r := 87) hX fo_RX9_32_8 SH_0 rfl dX9_cost_44 ?_
        refine s_iload_n hX dX9_cost_47 rfl ?_
        obtain ⟨r5, hc, h⟩ := bn_some h
        refine s_callVI _ hX (cX1_recomputingCost_ok (sl X)  hc) SH_87 mv_RX9_216_1 (fun _ => rfl) (by decide) (Nat.le_of_ble_eq_true rfl) hcs dX9_cost_48 rfl ?_
        exact absurd (rt3 h).1 he
      · replace h := (if_pos c6).symm.trans h
        obtain ⟨rfl, -, rfl⟩ := rt3 h
        exact hthr _ _ _ 211 213 215 _ xw_5_211_215 (List.mem_of_getElem? (i := 13) rfl) dX9_cost_33 dX9_cost_36 (Or.inl ⟨dX9_cost_37, dX9_cost_39, dX9_cost_42⟩) (Nat.le_of_ble_eq_true rfl)
    · replace h := (if_pos c8).symm.trans h
      refine s_aload_n hX dX9_cost_13 rfl ?_
      refine s_getR (r := 87) hX fo_RX9_32_8 SH_0 rfl dX9_cost_14 ?_
      refine s_iload_n hX dX9_cost_17 rfl ?_
      obtain ⟨r7, hc, h⟩ := bn_some h
      refine s_callVI _ hX (cX1_memoryCost_ok (sl X)  hc) SH_87 mv_RX9_204_1 (fun _ => rfl) (by decide) (Nat.le_of_ble_eq_true rfl) hcs dX9_cost_18 rfl ?_
      exact absurd (rt3 h).1 he
  · exact s_callVTV _ hX (cX9_requireVariable_th (sl X) hlX  he hc) SH_0 rfl mt_RX9_129 (fun _ => rfl) (by decide) (Nat.le_of_ble_eq_true rfl) hct dX9_cost_2 rfl hpr
def fX9_plan (σ : Mm) (l1 : Int32) (l2 : Int32) : Option Rx :=
  if l1 < 1 then
  some (1, 0, σ)
else
  if l1 ≤ 12 then
  (fX9_analyse σ).bind fun σ1 =>
  (fX5_make σ1 l1 l2).bind fun σ2 =>
  bd (upm σ2 0 (upd (σ2 0) 12 1)) fun σ3 =>
  (fX5_countAt σ3 1).bind fun r4 =>
  some (0, r4, σ3)
else
  some (1, 0, σ)
set_option maxHeartbeats 4000000 in
theorem cX9_plan_ok (l : Launch) {σ : Mm} {l1 : Int32} {l2 : Int32} {r : Int32} {σ' : Mm}  (h : fX9_plan σ l1 l2 = some (0, r, σ')) : cI l yX9_plan cX9_plan 3 .int 8 142 (fun ad => [.ref (ad 0), .int l1, .int l2]) σ r σ' := by
  refine c_enterI (fun ad => [some (.ref (ad 0)), some (.int l1), some (.int l2)]) (by decide) (fun ad => ⟨by simp [Value.category], Nat.le_of_ble_eq_true rfl⟩) (fun ad => ⟨0, rfl⟩) ?_
  intro X _ hX hret
  have hcs : ((0 : Nat), (0 : Nat)).1 ≤ (sR X).cells ∧ ((0 : Nat), (0 : Nat)).2 ≤ (sR X).slots := ⟨Nat.zero_le _, Nat.zero_le _⟩
  generalize hcs0 : ((0 : Nat), (0 : Nat)) = cs at hcs hret ⊢
  unfold fX9_plan at h
  show sW X 3 cs σ 0 [some (.ref (sad X 0)), some (.int l1), some (.int l2)] []
  refine s_iload_n hX dX9_plan_0 rfl ?_
  refine s_iconst 1 hX dX9_plan_1 (by decide) ?_
  refine s_ic_lt (tgt := 11) hX dX9_plan_2 (by decide) (fun c6 => ?_) (fun c6 => ?_)
  · replace h := (if_pos c6).symm.trans h
    exact absurd (rt3 h).1 (by decide)
  · replace h := (if_neg c6).symm.trans h
    refine s_iload_n hX dX9_plan_5 rfl ?_
    refine s_bipush 12 hX dX9_plan_6 (by decide) ?_
    refine s_ic_le (tgt := 21) hX dX9_plan_8 (by decide) (fun c5 => ?_) (fun c5 => ?_)
    · replace h := (if_pos c5).symm.trans h
      refine s_aload_n hX dX9_plan_21 rfl ?_
      obtain ⟨σ1, hc, h⟩ := bn_some h
      refine s_callVV _ hX (cX9_analyse_ok (sl X)  hc) SH_0 mv_RX9_173_8 (fun _ => rfl) (by decide) (Nat.le_of_ble_eq_true rfl) hcs dX9_plan_22 rfl ?_
      refine s_aload_n hX dX9_plan_25 rfl ?_
      refine s_getR (r := 97) hX fo_RX9_40_8 SH_0 rfl dX9_plan_26 ?_
      refine s_iload_n hX dX9_plan_29 rfl ?_
      refine s_iload_n hX dX9_plan_30 rfl ?_
      obtain ⟨σ2, hc, h⟩ := bn_some h
      refine s_callVV _ hX (cX5_make_ok (sl X)  hc) SH_97 mv_RX9_221_4 (fun _ => rfl) (by decide) (Nat.le_of_ble_eq_true rfl) hcs dX9_plan_31 rfl ?_
      refine s_aload_n hX dX9_plan_34 rfl ?_
      refine s_iconst 1 hX dX9_plan_35 (by decide) ?_
      obtain ⟨σ3, eσ3, h⟩ := bd_some h
      refine s_putZ hX fo_RX9_225_8 SH_0 rfl (Or.inr rfl) dX9_plan_36 ?_
      refine s_mem σ3 eσ3 ?_
      refine s_aload_n hX dX9_plan_39 rfl ?_
      refine s_getR (r := 97) hX fo_RX9_40_8 SH_0 rfl dX9_plan_40 ?_
      refine s_iconst 1 hX dX9_plan_43 (by decide) ?_
      obtain ⟨r4, hc, h⟩ := bn_some h
      refine s_callVI _ hX (cX5_countAt_ok (sl X)  hc) SH_97 mv_RX9_229_4 (fun _ => rfl) (by decide) (Nat.le_of_ble_eq_true rfl) hcs dX9_plan_44 rfl ?_
      obtain ⟨-, rfl, rfl⟩ := rt3 h
      exact hret _ _ (nzi _) dX9_plan_47
    · replace h := (if_neg c5).symm.trans h
      exact absurd (rt3 h).1 (by decide)
set_option maxHeartbeats 4000000 in
theorem cX9_plan_th (l : Launch) (hl : l.stackTraces = false) {σ : Mm} {l1 : Int32} {l2 : Int32} {e : Nat} {r : Int32} {σ' : Mm}  (he : e ≠ 0) (h : fX9_plan σ l1 l2 = some (e, r, σ')) : cTI l yX9_plan cX9_plan 3 .int 8 142 (fun ad => [.ref (ad 0), .int l1, .int l2]) σ e σ' := by
  refine c_enterTI (fun ad => [some (.ref (ad 0)), some (.int l1), some (.int l2)]) hl (by decide) rfl (by decide) (by decide) (fun ad => ⟨by simp [Value.category], Nat.le_of_ble_eq_true rfl⟩) (fun ad => ⟨0, rfl⟩) ?_
  intro X hsl hX hct hthr hpr
  have hlX : (sl X).stackTraces = false := by rw [hsl]; exact hl
  have hcs : ((0 : Nat), (0 : Nat)).1 ≤ (sR X).cells ∧ ((0 : Nat), (0 : Nat)).2 ≤ (sR X).slots := ⟨Nat.zero_le _, Nat.zero_le _⟩
  replace hct : ((0 : Nat), (0 : Nat)).1 + 1 ≤ (sR X).cells ∧ ((0 : Nat), (0 : Nat)).2 + 6 ≤ (sR X).slots := hct
  generalize hcs0 : ((0 : Nat), (0 : Nat)) = cs at hcs hct hthr hpr ⊢
  unfold fX9_plan at h
  show sW X 3 cs σ 0 [some (.ref (sad X 0)), some (.int l1), some (.int l2)] []
  refine s_iload_n hX dX9_plan_0 rfl ?_
  refine s_iconst 1 hX dX9_plan_1 (by decide) ?_
  refine s_ic_lt (tgt := 11) hX dX9_plan_2 (by decide) (fun c6 => ?_) (fun c6 => ?_)
  · replace h := (if_pos c6).symm.trans h
    obtain ⟨rfl, -, rfl⟩ := rt3 h
    exact hthr _ _ _ 76 219 80 _ xw_1_76_80 (List.mem_of_getElem? (i := 14) rfl) dX9_plan_11 dX9_plan_14 (Or.inl ⟨dX9_plan_15, dX9_plan_17, dX9_plan_20⟩) (Nat.le_of_ble_eq_true rfl)
  · replace h := (if_neg c6).symm.trans h
    refine s_iload_n hX dX9_plan_5 rfl ?_
    refine s_bipush 12 hX dX9_plan_6 (by decide) ?_
    refine s_ic_le (tgt := 21) hX dX9_plan_8 (by decide) (fun c5 => ?_) (fun c5 => ?_)
    · replace h := (if_pos c5).symm.trans h
      refine s_aload_n hX dX9_plan_21 rfl ?_
      obtain ⟨σ1, hc, h⟩ := bn_some h
      refine s_callVV _ hX (cX9_analyse_ok (sl X)  hc) SH_0 mv_RX9_173_8 (fun _ => rfl) (by decide) (Nat.le_of_ble_eq_true rfl) hcs dX9_plan_22 rfl ?_
      refine s_aload_n hX dX9_plan_25 rfl ?_
      refine s_getR (r := 97) hX fo_RX9_40_8 SH_0 rfl dX9_plan_26 ?_
      refine s_iload_n hX dX9_plan_29 rfl ?_
      refine s_iload_n hX dX9_plan_30 rfl ?_
      obtain ⟨σ2, hc, h⟩ := bn_some h
      refine s_callVV _ hX (cX5_make_ok (sl X)  hc) SH_97 mv_RX9_221_4 (fun _ => rfl) (by decide) (Nat.le_of_ble_eq_true rfl) hcs dX9_plan_31 rfl ?_
      refine s_aload_n hX dX9_plan_34 rfl ?_
      refine s_iconst 1 hX dX9_plan_35 (by decide) ?_
      obtain ⟨σ3, eσ3, h⟩ := bd_some h
      refine s_putZ hX fo_RX9_225_8 SH_0 rfl (Or.inr rfl) dX9_plan_36 ?_
      refine s_mem σ3 eσ3 ?_
      refine s_aload_n hX dX9_plan_39 rfl ?_
      refine s_getR (r := 97) hX fo_RX9_40_8 SH_0 rfl dX9_plan_40 ?_
      refine s_iconst 1 hX dX9_plan_43 (by decide) ?_
      obtain ⟨r4, hc, h⟩ := bn_some h
      refine s_callVI _ hX (cX5_countAt_ok (sl X)  hc) SH_97 mv_RX9_229_4 (fun _ => rfl) (by decide) (Nat.le_of_ble_eq_true rfl) hcs dX9_plan_44 rfl ?_
      exact absurd (rt3 h).1 he
    · replace h := (if_neg c5).symm.trans h
      obtain ⟨rfl, -, rfl⟩ := rt3 h
      exact hthr _ _ _ 76 219 80 _ xw_1_76_80 (List.mem_of_getElem? (i := 14) rfl) dX9_plan_11 dX9_plan_14 (Or.inl ⟨dX9_plan_15, dX9_plan_17, dX9_plan_20⟩) (Nat.le_of_ble_eq_true rfl)
def fX9_requirePlan (σ : Mm) : Option Rx :=
  if (σ 0 12) = 0 then
  some (3, 0, σ)
else
  some (0, 0, σ)
set_option maxHeartbeats 4000000 in
theorem cX9_requirePlan_ok (l : Launch) {σ : Mm} {r : Int32} {σ' : Mm}  (h : fX9_requirePlan σ = some (0, r, σ')) : cV l yX9_requirePlan cX9_requirePlan 1 8 120 (fun ad => [.ref (ad 0)]) σ σ' := by
  refine c_enterV (fun ad => [some (.ref (ad 0))]) (by decide) (fun ad => ⟨by simp [Value.category], Nat.le_of_ble_eq_true rfl⟩) (fun ad => ⟨0, rfl⟩) ?_
  intro X _ hX hret
  have hcs : ((0 : Nat), (0 : Nat)).1 ≤ (sR X).cells ∧ ((0 : Nat), (0 : Nat)).2 ≤ (sR X).slots := ⟨Nat.zero_le _, Nat.zero_le _⟩
  generalize hcs0 : ((0 : Nat), (0 : Nat)) = cs at hcs hret ⊢
  unfold fX9_requirePlan at h
  show sW X 1 cs σ 0 [some (.ref (sad X 0))] []
  refine s_aload_n hX dX9_requirePlan_0 rfl ?_
  refine s_getI hX fo_RX9_225_8 SH_0 rfl dX9_requirePlan_1 ?_
  refine s_if_ne (tgt := 18) hX dX9_requirePlan_4 (by decide) (fun c1 => ?_) (fun c1 => ?_)
  · replace h := (if_neg c1).symm.trans h
    obtain ⟨-, -, rfl⟩ := rt3 h
    exact hret _ _ dX9_requirePlan_18
  · replace h := (if_pos c1).symm.trans h
    exact absurd (rt3 h).1 (by decide)
set_option maxHeartbeats 4000000 in
theorem cX9_requirePlan_th (l : Launch) (hl : l.stackTraces = false) {σ : Mm} {e : Nat} {r : Int32} {σ' : Mm}  (he : e ≠ 0) (h : fX9_requirePlan σ = some (e, r, σ')) : cTV l yX9_requirePlan cX9_requirePlan 1 8 120 (fun ad => [.ref (ad 0)]) σ e σ' := by
  refine c_enterTV (fun ad => [some (.ref (ad 0))]) hl (by decide) rfl (by decide) (by decide) (fun ad => ⟨by simp [Value.category], Nat.le_of_ble_eq_true rfl⟩) (fun ad => ⟨0, rfl⟩) ?_
  intro X hsl hX hct hthr hpr
  have hlX : (sl X).stackTraces = false := by rw [hsl]; exact hl
  have hcs : ((0 : Nat), (0 : Nat)).1 ≤ (sR X).cells ∧ ((0 : Nat), (0 : Nat)).2 ≤ (sR X).slots := ⟨Nat.zero_le _, Nat.zero_le _⟩
  replace hct : ((0 : Nat), (0 : Nat)).1 + 1 ≤ (sR X).cells ∧ ((0 : Nat), (0 : Nat)).2 + 6 ≤ (sR X).slots := hct
  generalize hcs0 : ((0 : Nat), (0 : Nat)) = cs at hcs hct hthr hpr ⊢
  unfold fX9_requirePlan at h
  show sW X 1 cs σ 0 [some (.ref (sad X 0))] []
  refine s_aload_n hX dX9_requirePlan_0 rfl ?_
  refine s_getI hX fo_RX9_225_8 SH_0 rfl dX9_requirePlan_1 ?_
  refine s_if_ne (tgt := 18) hX dX9_requirePlan_4 (by decide) (fun c1 => ?_) (fun c1 => ?_)
  · replace h := (if_neg c1).symm.trans h
    exact absurd (rt3 h).1 he
  · replace h := (if_pos c1).symm.trans h
    obtain ⟨rfl, -, rfl⟩ := rt3 h
    exact hthr _ _ _ 110 372 114 _ xw_3_110_114 (List.mem_of_getElem? (i := 16) rfl) dX9_requirePlan_7 dX9_requirePlan_10 (Or.inr ⟨by decide, dX9_requirePlan_11, dX9_requirePlan_14, dX9_requirePlan_17⟩) (Nat.le_of_ble_eq_true rfl)
def fX9_home (σ : Mm) (l1 : Int32) (l2 : Int32) : Option Rx :=
  bnT (fX9_requireVariable σ l1) fun r1 σ2 =>
  if l2 < 0 then
  some (1, 0, σ2)
else
  if l2 ≤ 2 then
  bnT (fX9_requirePlan σ2) fun r3 σ4 =>
  if l2 = 0 then
  gd l1 12 <|
  some (0, σ4 98 l1.toNatClampNeg, σ4)
else
  if l2 = 1 then
  gd l1 12 <|
  some (0, σ4 99 l1.toNatClampNeg, σ4)
else
  gd l1 12 <|
  some (0, σ4 100 l1.toNatClampNeg, σ4)
else
  some (1, 0, σ2)
set_option maxHeartbeats 4000000 in
theorem cX9_home_ok (l : Launch) {σ : Mm} {l1 : Int32} {l2 : Int32} {r : Int32} {σ' : Mm}  (h : fX9_home σ l1 l2 = some (0, r, σ')) : cI l yX9_home cX9_home 3 .int 9 141 (fun ad => [.ref (ad 0), .int l1, .int l2]) σ r σ' := by
  refine c_enterI (fun ad => [some (.ref (ad 0)), some (.int l1), some (.int l2)]) (by decide) (fun ad => ⟨by simp [Value.category], Nat.le_of_ble_eq_true rfl⟩) (fun ad => ⟨0, rfl⟩) ?_
  intro X _ hX hret
  have hcs : ((0 : Nat), (0 : Nat)).1 ≤ (sR X).cells ∧ ((0 : Nat), (0 : Nat)).2 ≤ (sR X).slots := ⟨Nat.zero_le _, Nat.zero_le _⟩
  generalize hcs0 : ((0 : Nat), (0 : Nat)) = cs at hcs hret ⊢
  unfold fX9_home at h
  show sW X 3 cs σ 0 [some (.ref (sad X 0)), some (.int l1), some (.int l2)] []
  refine s_aload_n hX dX9_home_0 rfl ?_
  refine s_iload_n hX dX9_home_1 rfl ?_
  obtain ⟨r1, σ2, hc, h⟩ := bnT_0 h
  refine s_callVV _ hX (cX9_requireVariable_ok (sl X)  hc) SH_0 mv_RX9_129_8 (fun _ => rfl) (by decide) (Nat.le_of_ble_eq_true rfl) hcs dX9_home_2 rfl ?_
  refine s_iload_n hX dX9_home_5 rfl ?_
  refine s_if_lt (tgt := 14) hX dX9_home_6 (by decide) (fun c11 => ?_) (fun c11 => ?_)
  · replace h := (if_pos c11).symm.trans h
    exact absurd (rt3 h).1 (by decide)
  · replace h := (if_neg c11).symm.trans h
    refine s_iload_n hX dX9_home_9 rfl ?_
    refine s_iconst 2 hX dX9_home_10 (by decide) ?_
    refine s_ic_le (tgt := 24) hX dX9_home_11 (by decide) (fun c10 => ?_) (fun c10 => ?_)
    · replace h := (if_pos c10).symm.trans h
      refine s_aload_n hX dX9_home_24 rfl ?_
      obtain ⟨r3, σ4, hc, h⟩ := bnT_0 h
      refine s_callVV _ hX (cX9_requirePlan_ok (sl X)  hc) SH_0 mv_RX9_234_8 (fun _ => rfl) (by decide) (Nat.le_of_ble_eq_true rfl) hcs dX9_home_25 rfl ?_
      refine s_iload_n hX dX9_home_28 rfl ?_
      refine s_if_ne (tgt := 42) hX dX9_home_29 (by decide) (fun c9 => ?_) (fun c9 => ?_)
      · replace h := (if_neg c9).symm.trans h
        refine s_iload_n hX dX9_home_42 rfl ?_
        refine s_iconst 1 hX dX9_home_43 (by decide) ?_
        refine s_ic_ne (tgt := 59) hX dX9_home_44 (by decide) (fun c7 => ?_) (fun c7 => ?_)
        · replace h := (if_neg c7).symm.trans h
          refine s_aload_n hX dX9_home_59 rfl ?_
          refine s_getR (r := 97) hX fo_RX9_40_8 SH_0 rfl dX9_home_60 ?_
          refine s_getR (r := 100) hX fo_RX9_243_4 SH_97 rfl dX9_home_63 ?_
          refine s_iload_n hX dX9_home_66 rfl ?_
          obtain ⟨c5, h⟩ := gd_some h
          refine s_iald hX SH_100 c5 dX9_home_67 ?_
          obtain ⟨-, rfl, rfl⟩ := rt3 h
          exact hret _ _ (nzi _) dX9_home_68
        · replace h := (if_pos c7).symm.trans h
          refine s_aload_n hX dX9_home_47 rfl ?_
          refine s_getR (r := 97) hX fo_RX9_40_8 SH_0 rfl dX9_home_48 ?_
          refine s_getR (r := 99) hX fo_RX9_240_4 SH_97 rfl dX9_home_51 ?_
          refine s_iload_n hX dX9_home_54 rfl ?_
          obtain ⟨c6, h⟩ := gd_some h
          refine s_iald hX SH_99 c6 dX9_home_55 ?_
          refine s_goto (tgt := 68) hX dX9_home_56 (by decide) ?_
          obtain ⟨-, rfl, rfl⟩ := rt3 h
          exact hret _ _ (nzi _) dX9_home_68
      · replace h := (if_pos c9).symm.trans h
        refine s_aload_n hX dX9_home_32 rfl ?_
        refine s_getR (r := 97) hX fo_RX9_40_8 SH_0 rfl dX9_home_33 ?_
        refine s_getR (r := 98) hX fo_RX9_237_4 SH_97 rfl dX9_home_36 ?_
        refine s_iload_n hX dX9_home_39 rfl ?_
        obtain ⟨c8, h⟩ := gd_some h
        refine s_iald hX SH_98 c8 dX9_home_40 ?_
        obtain ⟨-, rfl, rfl⟩ := rt3 h
        exact hret _ _ (nzi _) dX9_home_41
    · replace h := (if_neg c10).symm.trans h
      exact absurd (rt3 h).1 (by decide)
set_option maxHeartbeats 4000000 in
theorem cX9_home_th (l : Launch) (hl : l.stackTraces = false) {σ : Mm} {l1 : Int32} {l2 : Int32} {e : Nat} {r : Int32} {σ' : Mm}  (he : e ≠ 0) (h : fX9_home σ l1 l2 = some (e, r, σ')) : cTI l yX9_home cX9_home 3 .int 9 141 (fun ad => [.ref (ad 0), .int l1, .int l2]) σ e σ' := by
  refine c_enterTI (fun ad => [some (.ref (ad 0)), some (.int l1), some (.int l2)]) hl (by decide) rfl (by decide) (by decide) (fun ad => ⟨by simp [Value.category], Nat.le_of_ble_eq_true rfl⟩) (fun ad => ⟨0, rfl⟩) ?_
  intro X hsl hX hct hthr hpr
  have hlX : (sl X).stackTraces = false := by rw [hsl]; exact hl
  have hcs : ((0 : Nat), (0 : Nat)).1 ≤ (sR X).cells ∧ ((0 : Nat), (0 : Nat)).2 ≤ (sR X).slots := ⟨Nat.zero_le _, Nat.zero_le _⟩
  replace hct : ((0 : Nat), (0 : Nat)).1 + 1 ≤ (sR X).cells ∧ ((0 : Nat), (0 : Nat)).2 + 6 ≤ (sR X).slots := hct
  generalize hcs0 : ((0 : Nat), (0 : Nat)) = cs at hcs hct hthr hpr ⊢
  unfold fX9_home at h
  show sW X 3 cs σ 0 [some (.ref (sad X 0)), some (.int l1), some (.int l2)] []
  refine s_aload_n hX dX9_home_0 rfl ?_
  refine s_iload_n hX dX9_home_1 rfl ?_
  rcases bnT_e he h with ⟨r1, σ2, hc, h⟩ | ⟨r1, hc⟩
  · refine s_callVV _ hX (cX9_requireVariable_ok (sl X)  hc) SH_0 mv_RX9_129_8 (fun _ => rfl) (by decide) (Nat.le_of_ble_eq_true rfl) hcs dX9_home_2 rfl ?_
    refine s_iload_n hX dX9_home_5 rfl ?_
    refine s_if_lt (tgt := 14) hX dX9_home_6 (by decide) (fun c11 => ?_) (fun c11 => ?_)
    · replace h := (if_pos c11).symm.trans h
      obtain ⟨rfl, -, rfl⟩ := rt3 h
      exact hthr _ _ _ 76 232 80 _ xw_1_76_80 (List.mem_of_getElem? (i := 15) rfl) dX9_home_14 dX9_home_17 (Or.inl ⟨dX9_home_18, dX9_home_20, dX9_home_23⟩) (Nat.le_of_ble_eq_true rfl)
    · replace h := (if_neg c11).symm.trans h
      refine s_iload_n hX dX9_home_9 rfl ?_
      refine s_iconst 2 hX dX9_home_10 (by decide) ?_
      refine s_ic_le (tgt := 24) hX dX9_home_11 (by decide) (fun c10 => ?_) (fun c10 => ?_)
      · replace h := (if_pos c10).symm.trans h
        refine s_aload_n hX dX9_home_24 rfl ?_
        rcases bnT_e he h with ⟨r3, σ4, hc, h⟩ | ⟨r3, hc⟩
        · refine s_callVV _ hX (cX9_requirePlan_ok (sl X)  hc) SH_0 mv_RX9_234_8 (fun _ => rfl) (by decide) (Nat.le_of_ble_eq_true rfl) hcs dX9_home_25 rfl ?_
          refine s_iload_n hX dX9_home_28 rfl ?_
          refine s_if_ne (tgt := 42) hX dX9_home_29 (by decide) (fun c9 => ?_) (fun c9 => ?_)
          · replace h := (if_neg c9).symm.trans h
            refine s_iload_n hX dX9_home_42 rfl ?_
            refine s_iconst 1 hX dX9_home_43 (by decide) ?_
            refine s_ic_ne (tgt := 59) hX dX9_home_44 (by decide) (fun c7 => ?_) (fun c7 => ?_)
            · replace h := (if_neg c7).symm.trans h
              refine s_aload_n hX dX9_home_59 rfl ?_
              refine s_getR (r := 97) hX fo_RX9_40_8 SH_0 rfl dX9_home_60 ?_
              refine s_getR (r := 100) hX fo_RX9_243_4 SH_97 rfl dX9_home_63 ?_
              refine s_iload_n hX dX9_home_66 rfl ?_
              obtain ⟨c5, h⟩ := gd_some h
              refine s_iald hX SH_100 c5 dX9_home_67 ?_
              exact absurd (rt3 h).1 he
            · replace h := (if_pos c7).symm.trans h
              refine s_aload_n hX dX9_home_47 rfl ?_
              refine s_getR (r := 97) hX fo_RX9_40_8 SH_0 rfl dX9_home_48 ?_
              refine s_getR (r := 99) hX fo_RX9_240_4 SH_97 rfl dX9_home_51 ?_
              refine s_iload_n hX dX9_home_54 rfl ?_
              obtain ⟨c6, h⟩ := gd_some h
              refine s_iald hX SH_99 c6 dX9_home_55 ?_
              refine s_goto (tgt := 68) hX dX9_home_56 (by decide) ?_
              exact absurd (rt3 h).1 he
          · replace h := (if_pos c9).symm.trans h
            refine s_aload_n hX dX9_home_32 rfl ?_
            refine s_getR (r := 97) hX fo_RX9_40_8 SH_0 rfl dX9_home_33 ?_
            refine s_getR (r := 98) hX fo_RX9_237_4 SH_97 rfl dX9_home_36 ?_
            refine s_iload_n hX dX9_home_39 rfl ?_
            obtain ⟨c8, h⟩ := gd_some h
            refine s_iald hX SH_98 c8 dX9_home_40 ?_
            exact absurd (rt3 h).1 he
        · exact s_callVTV _ hX (cX9_requirePlan_th (sl X) hlX  he hc) SH_0 rfl mt_RX9_234 (fun _ => rfl) (by decide) (Nat.le_of_ble_eq_true rfl) hct dX9_home_25 rfl hpr
      · replace h := (if_neg c10).symm.trans h
        obtain ⟨rfl, -, rfl⟩ := rt3 h
        exact hthr _ _ _ 76 232 80 _ xw_1_76_80 (List.mem_of_getElem? (i := 15) rfl) dX9_home_14 dX9_home_17 (Or.inl ⟨dX9_home_18, dX9_home_20, dX9_home_23⟩) (Nat.le_of_ble_eq_true rfl)
  · exact s_callVTV _ hX (cX9_requireVariable_th (sl X) hlX  he hc) SH_0 rfl mt_RX9_129 (fun _ => rfl) (by decide) (Nat.le_of_ble_eq_true rfl) hct dX9_home_2 rfl hpr
def fX9_promoted (σ : Mm) (l1 : Int32) (l2 : Int32) : Option Rx :=
  bnT (fX9_requireVariable σ l1) fun r1 σ2 =>
  bnT (fX9_requireLoop σ2 l2) fun r3 σ4 =>
  bnT (fX9_requirePlan σ4) fun r5 σ6 =>
  gd ((l2 * 12) + l1) 96 <|
  bd (σ6 101 ((l2 * 12) + l1).toNatClampNeg) fun v8 =>
  if v8 = (-1) then
  some (4, 0, σ6)
else
  some (0, v8, σ6)
set_option maxHeartbeats 4000000 in
theorem cX9_promoted_ok (l : Launch) {σ : Mm} {l1 : Int32} {l2 : Int32} {r : Int32} {σ' : Mm}  (h : fX9_promoted σ l1 l2 = some (0, r, σ')) : cI l yX9_promoted cX9_promoted 4 .int 9 141 (fun ad => [.ref (ad 0), .int l1, .int l2]) σ r σ' := by
  refine c_enterI (fun ad => [some (.ref (ad 0)), some (.int l1), some (.int l2), none]) (by decide) (fun ad => ⟨by simp [Value.category], Nat.le_of_ble_eq_true rfl⟩) (fun ad => ⟨1, rfl⟩) ?_
  intro X _ hX hret
  have hcs : ((0 : Nat), (0 : Nat)).1 ≤ (sR X).cells ∧ ((0 : Nat), (0 : Nat)).2 ≤ (sR X).slots := ⟨Nat.zero_le _, Nat.zero_le _⟩
  generalize hcs0 : ((0 : Nat), (0 : Nat)) = cs at hcs hret ⊢
  unfold fX9_promoted at h
  show sW X 4 cs σ 0 [some (.ref (sad X 0)), some (.int l1), some (.int l2), none] []
  refine s_aload_n hX dX9_promoted_0 rfl ?_
  refine s_iload_n hX dX9_promoted_1 rfl ?_
  obtain ⟨r1, σ2, hc, h⟩ := bnT_0 h
  refine s_callVV _ hX (cX9_requireVariable_ok (sl X)  hc) SH_0 mv_RX9_129_8 (fun _ => rfl) (by decide) (Nat.le_of_ble_eq_true rfl) hcs dX9_promoted_2 rfl ?_
  refine s_aload_n hX dX9_promoted_5 rfl ?_
  refine s_iload_n hX dX9_promoted_6 rfl ?_
  obtain ⟨r3, σ4, hc, h⟩ := bnT_0 h
  refine s_callVV _ hX (cX9_requireLoop_ok (sl X)  hc) SH_0 mv_RX9_189_8 (fun _ => rfl) (by decide) (Nat.le_of_ble_eq_true rfl) hcs dX9_promoted_7 rfl ?_
  refine s_aload_n hX dX9_promoted_10 rfl ?_
  obtain ⟨r5, σ6, hc, h⟩ := bnT_0 h
  refine s_callVV _ hX (cX9_requirePlan_ok (sl X)  hc) SH_0 mv_RX9_234_8 (fun _ => rfl) (by decide) (Nat.le_of_ble_eq_true rfl) hcs dX9_promoted_11 rfl ?_
  refine s_aload_n hX dX9_promoted_14 rfl ?_
  refine s_getR (r := 97) hX fo_RX9_40_8 SH_0 rfl dX9_promoted_15 ?_
  refine s_getR (r := 101) hX fo_RX9_246_4 SH_97 rfl dX9_promoted_18 ?_
  refine s_iload_n hX dX9_promoted_21 rfl ?_
  refine s_bipush 12 hX dX9_promoted_22 (by decide) ?_
  refine s_imul hX dX9_promoted_24 ?_
  refine s_iload_n hX dX9_promoted_25 rfl ?_
  refine s_iadd hX dX9_promoted_26 ?_
  obtain ⟨c7, h⟩ := gd_some h
  refine s_iald hX SH_101 c7 dX9_promoted_27 ?_
  obtain ⟨v8, ev8, h⟩ := bd_some h
  refine s_topi v8 ev8 ?_
  refine s_istore_n hX dX9_promoted_28 (by decide) ?_
  refine s_iload_n hX dX9_promoted_29 rfl ?_
  refine s_iconst (-1) hX dX9_promoted_30 (by decide) ?_
  refine s_ic_ne (tgt := 44) hX dX9_promoted_31 (by decide) (fun c9 => ?_) (fun c9 => ?_)
  · replace h := (if_neg c9).symm.trans h
    refine s_iload_n hX dX9_promoted_44 rfl ?_
    obtain ⟨-, rfl, rfl⟩ := rt3 h
    exact hret _ _ (nzi _) dX9_promoted_45
  · replace h := (if_pos c9).symm.trans h
    exact absurd (rt3 h).1 (by decide)
set_option maxHeartbeats 4000000 in
theorem cX9_promoted_th (l : Launch) (hl : l.stackTraces = false) {σ : Mm} {l1 : Int32} {l2 : Int32} {e : Nat} {r : Int32} {σ' : Mm}  (he : e ≠ 0) (h : fX9_promoted σ l1 l2 = some (e, r, σ')) : cTI l yX9_promoted cX9_promoted 4 .int 9 141 (fun ad => [.ref (ad 0), .int l1, .int l2]) σ e σ' := by
  refine c_enterTI (fun ad => [some (.ref (ad 0)), some (.int l1), some (.int l2), none]) hl (by decide) rfl (by decide) (by decide) (fun ad => ⟨by simp [Value.category], Nat.le_of_ble_eq_true rfl⟩) (fun ad => ⟨1, rfl⟩) ?_
  intro X hsl hX hct hthr hpr
  have hlX : (sl X).stackTraces = false := by rw [hsl]; exact hl
  have hcs : ((0 : Nat), (0 : Nat)).1 ≤ (sR X).cells ∧ ((0 : Nat), (0 : Nat)).2 ≤ (sR X).slots := ⟨Nat.zero_le _, Nat.zero_le _⟩
  replace hct : ((0 : Nat), (0 : Nat)).1 + 1 ≤ (sR X).cells ∧ ((0 : Nat), (0 : Nat)).2 + 6 ≤ (sR X).slots := hct
  generalize hcs0 : ((0 : Nat), (0 : Nat)) = cs at hcs hct hthr hpr ⊢
  unfold fX9_promoted at h
  show sW X 4 cs σ 0 [some (.ref (sad X 0)), some (.int l1), some (.int l2), none] []
  refine s_aload_n hX dX9_promoted_0 rfl ?_
  refine s_iload_n hX dX9_promoted_1 rfl ?_
  rcases bnT_e he h with ⟨r1, σ2, hc, h⟩ | ⟨r1, hc⟩
  · refine s_callVV _ hX (cX9_requireVariable_ok (sl X)  hc) SH_0 mv_RX9_129_8 (fun _ => rfl) (by decide) (Nat.le_of_ble_eq_true rfl) hcs dX9_promoted_2 rfl ?_
    refine s_aload_n hX dX9_promoted_5 rfl ?_
    refine s_iload_n hX dX9_promoted_6 rfl ?_
    rcases bnT_e he h with ⟨r3, σ4, hc, h⟩ | ⟨r3, hc⟩
    · refine s_callVV _ hX (cX9_requireLoop_ok (sl X)  hc) SH_0 mv_RX9_189_8 (fun _ => rfl) (by decide) (Nat.le_of_ble_eq_true rfl) hcs dX9_promoted_7 rfl ?_
      refine s_aload_n hX dX9_promoted_10 rfl ?_
      rcases bnT_e he h with ⟨r5, σ6, hc, h⟩ | ⟨r5, hc⟩
      · refine s_callVV _ hX (cX9_requirePlan_ok (sl X)  hc) SH_0 mv_RX9_234_8 (fun _ => rfl) (by decide) (Nat.le_of_ble_eq_true rfl) hcs dX9_promoted_11 rfl ?_
        refine s_aload_n hX dX9_promoted_14 rfl ?_
        refine s_getR (r := 97) hX fo_RX9_40_8 SH_0 rfl dX9_promoted_15 ?_
        refine s_getR (r := 101) hX fo_RX9_246_4 SH_97 rfl dX9_promoted_18 ?_
        refine s_iload_n hX dX9_promoted_21 rfl ?_
        refine s_bipush 12 hX dX9_promoted_22 (by decide) ?_
        refine s_imul hX dX9_promoted_24 ?_
        refine s_iload_n hX dX9_promoted_25 rfl ?_
        refine s_iadd hX dX9_promoted_26 ?_
        obtain ⟨c7, h⟩ := gd_some h
        refine s_iald hX SH_101 c7 dX9_promoted_27 ?_
        obtain ⟨v8, ev8, h⟩ := bd_some h
        refine s_topi v8 ev8 ?_
        refine s_istore_n hX dX9_promoted_28 (by decide) ?_
        refine s_iload_n hX dX9_promoted_29 rfl ?_
        refine s_iconst (-1) hX dX9_promoted_30 (by decide) ?_
        refine s_ic_ne (tgt := 44) hX dX9_promoted_31 (by decide) (fun c9 => ?_) (fun c9 => ?_)
        · replace h := (if_neg c9).symm.trans h
          refine s_iload_n hX dX9_promoted_44 rfl ?_
          exact absurd (rt3 h).1 he
        · replace h := (if_pos c9).symm.trans h
          obtain ⟨rfl, -, rfl⟩ := rt3 h
          exact hthr _ _ _ 119 249 123 _ xw_4_119_123 (List.mem_of_getElem? (i := 17) rfl) dX9_promoted_34 dX9_promoted_37 (Or.inl ⟨dX9_promoted_38, dX9_promoted_40, dX9_promoted_43⟩) (Nat.le_of_ble_eq_true rfl)
      · exact s_callVTV _ hX (cX9_requirePlan_th (sl X) hlX  he hc) SH_0 rfl mt_RX9_234 (fun _ => rfl) (by decide) (Nat.le_of_ble_eq_true rfl) hct dX9_promoted_11 rfl hpr
    · exact s_callVTV _ hX (cX9_requireLoop_th (sl X) hlX  he hc) SH_0 rfl mt_RX9_189 (fun _ => rfl) (by decide) (Nat.le_of_ble_eq_true rfl) hct dX9_promoted_7 rfl hpr
  · exact s_callVTV _ hX (cX9_requireVariable_th (sl X) hlX  he hc) SH_0 rfl mt_RX9_129 (fun _ => rfl) (by decide) (Nat.le_of_ble_eq_true rfl) hct dX9_promoted_2 rfl hpr
def fX9_planned (σ : Mm) (l1 : Int32) : Option Rx :=
  if l1 < 0 then
  some (1, 0, σ)
else
  if l1 ≤ 4 then
  bnT (fX9_requirePlan σ) fun r1 σ2 =>
  if l1 = 0 then
  some (0, σ2 97 9, σ2)
else if l1 = 1 then
  (fX5_slotCount σ2).bind fun r4 =>
  some (0, r4, σ2)
else if l1 = 2 then
  (fX5_countAt σ2 2).bind fun r6 =>
  some (0, r6, σ2)
else if l1 = 3 then
  some (0, σ2 97 10, σ2)
else 
  (fX5_totalCost σ2).bind fun r9 =>
  some (0, r9, σ2)
else
  some (1, 0, σ)
set_option maxHeartbeats 4000000 in
theorem cX9_planned_ok (l : Launch) {σ : Mm} {l1 : Int32} {r : Int32} {σ' : Mm}  (h : fX9_planned σ l1 = some (0, r, σ')) : cI l yX9_planned cX9_planned 2 .int 9 140 (fun ad => [.ref (ad 0), .int l1]) σ r σ' := by
  refine c_enterI (fun ad => [some (.ref (ad 0)), some (.int l1)]) (by decide) (fun ad => ⟨by simp [Value.category], Nat.le_of_ble_eq_true rfl⟩) (fun ad => ⟨0, rfl⟩) ?_
  intro X _ hX hret
  have hcs : ((0 : Nat), (0 : Nat)).1 ≤ (sR X).cells ∧ ((0 : Nat), (0 : Nat)).2 ≤ (sR X).slots := ⟨Nat.zero_le _, Nat.zero_le _⟩
  generalize hcs0 : ((0 : Nat), (0 : Nat)) = cs at hcs hret ⊢
  unfold fX9_planned at h
  show sW X 2 cs σ 0 [some (.ref (sad X 0)), some (.int l1)] []
  refine s_iload_n hX dX9_planned_0 rfl ?_
  refine s_if_lt (tgt := 9) hX dX9_planned_1 (by decide) (fun c11 => ?_) (fun c11 => ?_)
  · replace h := (if_pos c11).symm.trans h
    exact absurd (rt3 h).1 (by decide)
  · replace h := (if_neg c11).symm.trans h
    refine s_iload_n hX dX9_planned_4 rfl ?_
    refine s_iconst 4 hX dX9_planned_5 (by decide) ?_
    refine s_ic_le (tgt := 19) hX dX9_planned_6 (by decide) (fun c10 => ?_) (fun c10 => ?_)
    · replace h := (if_pos c10).symm.trans h
      refine s_aload_n hX dX9_planned_19 rfl ?_
      obtain ⟨r1, σ2, hc, h⟩ := bnT_0 h
      refine s_callVV _ hX (cX9_requirePlan_ok (sl X)  hc) SH_0 mv_RX9_234_8 (fun _ => rfl) (by decide) (Nat.le_of_ble_eq_true rfl) hcs dX9_planned_20 rfl ?_
      refine s_iload_n hX dX9_planned_23 rfl ?_
      by_cases c3 : l1 = 0
      · replace h := (if_pos c3).symm.trans h
        refine s_tswIn (tgt := 56) hX dX9_planned_24 (v := 0) c3 (by decide) (by decide) rfl (by decide) ?_
        refine s_aload_n hX dX9_planned_56 rfl ?_
        refine s_getR (r := 97) hX fo_RX9_40_8 SH_0 rfl dX9_planned_57 ?_
        refine s_getI hX fo_RX9_253_4 SH_97 rfl dX9_planned_60 ?_
        obtain ⟨-, rfl, rfl⟩ := rt3 h
        exact hret _ _ (nzi _) dX9_planned_63
      · replace h := (if_neg c3).symm.trans h
        by_cases c5 : l1 = 1
        · replace h := (if_pos c5).symm.trans h
          refine s_tswIn (tgt := 64) hX dX9_planned_24 (v := 1) c5 (by decide) (by decide) rfl (by decide) ?_
          refine s_aload_n hX dX9_planned_64 rfl ?_
          refine s_getR (r := 97) hX fo_RX9_40_8 SH_0 rfl dX9_planned_65 ?_
          obtain ⟨r4, hc, h⟩ := bn_some h
          refine s_callVI _ hX (cX5_slotCount_ok (sl X)  hc) SH_97 mv_RX9_256_4 (fun _ => rfl) (by decide) (Nat.le_of_ble_eq_true rfl) hcs dX9_planned_68 rfl ?_
          obtain ⟨-, rfl, rfl⟩ := rt3 h
          exact hret _ _ (nzi _) dX9_planned_71
        · replace h := (if_neg c5).symm.trans h
          by_cases c7 : l1 = 2
          · replace h := (if_pos c7).symm.trans h
            refine s_tswIn (tgt := 72) hX dX9_planned_24 (v := 2) c7 (by decide) (by decide) rfl (by decide) ?_
            refine s_aload_n hX dX9_planned_72 rfl ?_
            refine s_getR (r := 97) hX fo_RX9_40_8 SH_0 rfl dX9_planned_73 ?_
            refine s_iconst 2 hX dX9_planned_76 (by decide) ?_
            obtain ⟨r6, hc, h⟩ := bn_some h
            refine s_callVI _ hX (cX5_countAt_ok (sl X)  hc) SH_97 mv_RX9_229_4 (fun _ => rfl) (by decide) (Nat.le_of_ble_eq_true rfl) hcs dX9_planned_77 rfl ?_
            obtain ⟨-, rfl, rfl⟩ := rt3 h
            exact hret _ _ (nzi _) dX9_planned_80
          · replace h := (if_neg c7).symm.trans h
            by_cases c8 : l1 = 3
            · replace h := (if_pos c8).symm.trans h
              refine s_tswIn (tgt := 81) hX dX9_planned_24 (v := 3) c8 (by decide) (by decide) rfl (by decide) ?_
              refine s_aload_n hX dX9_planned_81 rfl ?_
              refine s_getR (r := 97) hX fo_RX9_40_8 SH_0 rfl dX9_planned_82 ?_
              refine s_getI hX fo_RX9_259_4 SH_97 rfl dX9_planned_85 ?_
              obtain ⟨-, rfl, rfl⟩ := rt3 h
              exact hret _ _ (nzi _) dX9_planned_88
            · replace h := (if_neg c8).symm.trans h
              refine s_tswOut (tgt := 89) hX dX9_planned_24 (tsw_out0_3 l1 c3 c5 c7 c8) (by decide) ?_
              refine s_aload_n hX dX9_planned_89 rfl ?_
              refine s_getR (r := 97) hX fo_RX9_40_8 SH_0 rfl dX9_planned_90 ?_
              obtain ⟨r9, hc, h⟩ := bn_some h
              refine s_callVI _ hX (cX5_totalCost_ok (sl X)  hc) SH_97 mv_RX9_262_4 (fun _ => rfl) (by decide) (Nat.le_of_ble_eq_true rfl) hcs dX9_planned_93 rfl ?_
              obtain ⟨-, rfl, rfl⟩ := rt3 h
              exact hret _ _ (nzi _) dX9_planned_96
    · replace h := (if_neg c10).symm.trans h
      exact absurd (rt3 h).1 (by decide)
set_option maxHeartbeats 4000000 in
theorem cX9_planned_th (l : Launch) (hl : l.stackTraces = false) {σ : Mm} {l1 : Int32} {e : Nat} {r : Int32} {σ' : Mm}  (he : e ≠ 0) (h : fX9_planned σ l1 = some (e, r, σ')) : cTI l yX9_planned cX9_planned 2 .int 9 140 (fun ad => [.ref (ad 0), .int l1]) σ e σ' := by
  refine c_enterTI (fun ad => [some (.ref (ad 0)), some (.int l1)]) hl (by decide) rfl (by decide) (by decide) (fun ad => ⟨by simp [Value.category], Nat.le_of_ble_eq_true rfl⟩) (fun ad => ⟨0, rfl⟩) ?_
  intro X hsl hX hct hthr hpr
  have hlX : (sl X).stackTraces = false := by rw [hsl]; exact hl
  have hcs : ((0 : Nat), (0 : Nat)).1 ≤ (sR X).cells ∧ ((0 : Nat), (0 : Nat)).2 ≤ (sR X).slots := ⟨Nat.zero_le _, Nat.zero_le _⟩
  replace hct : ((0 : Nat), (0 : Nat)).1 + 1 ≤ (sR X).cells ∧ ((0 : Nat), (0 : Nat)).2 + 6 ≤ (sR X).slots := hct
  generalize hcs0 : ((0 : Nat), (0 : Nat)) = cs at hcs hct hthr hpr ⊢
  unfold fX9_planned at h
  show sW X 2 cs σ 0 [some (.ref (sad X 0)), some (.int l1)] []
  refine s_iload_n hX dX9_planned_0 rfl ?_
  refine s_if_lt (tgt := 9) hX dX9_planned_1 (by decide) (fun c11 => ?_) (fun c11 => ?_)
  · replace h := (if_pos c11).symm.trans h
    obtain ⟨rfl, -, rfl⟩ := rt3 h
    exact hthr _ _ _ 76 251 80 _ xw_1_76_80 (List.mem_of_getElem? (i := 18) rfl) dX9_planned_9 dX9_planned_12 (Or.inl ⟨dX9_planned_13, dX9_planned_15, dX9_planned_18⟩) (Nat.le_of_ble_eq_true rfl)
  · replace h := (if_neg c11).symm.trans h
    refine s_iload_n hX dX9_planned_4 rfl ?_
    refine s_iconst 4 hX dX9_planned_5 (by decide) ?_
    refine s_ic_le (tgt := 19) hX dX9_planned_6 (by decide) (fun c10 => ?_) (fun c10 => ?_)
    · replace h := (if_pos c10).symm.trans h
      refine s_aload_n hX dX9_planned_19 rfl ?_
      rcases bnT_e he h with ⟨r1, σ2, hc, h⟩ | ⟨r1, hc⟩
      · refine s_callVV _ hX (cX9_requirePlan_ok (sl X)  hc) SH_0 mv_RX9_234_8 (fun _ => rfl) (by decide) (Nat.le_of_ble_eq_true rfl) hcs dX9_planned_20 rfl ?_
        refine s_iload_n hX dX9_planned_23 rfl ?_
        by_cases c3 : l1 = 0
        · replace h := (if_pos c3).symm.trans h
          refine s_tswIn (tgt := 56) hX dX9_planned_24 (v := 0) c3 (by decide) (by decide) rfl (by decide) ?_
          refine s_aload_n hX dX9_planned_56 rfl ?_
          refine s_getR (r := 97) hX fo_RX9_40_8 SH_0 rfl dX9_planned_57 ?_
          refine s_getI hX fo_RX9_253_4 SH_97 rfl dX9_planned_60 ?_
          exact absurd (rt3 h).1 he
        · replace h := (if_neg c3).symm.trans h
          by_cases c5 : l1 = 1
          · replace h := (if_pos c5).symm.trans h
            refine s_tswIn (tgt := 64) hX dX9_planned_24 (v := 1) c5 (by decide) (by decide) rfl (by decide) ?_
            refine s_aload_n hX dX9_planned_64 rfl ?_
            refine s_getR (r := 97) hX fo_RX9_40_8 SH_0 rfl dX9_planned_65 ?_
            obtain ⟨r4, hc, h⟩ := bn_some h
            refine s_callVI _ hX (cX5_slotCount_ok (sl X)  hc) SH_97 mv_RX9_256_4 (fun _ => rfl) (by decide) (Nat.le_of_ble_eq_true rfl) hcs dX9_planned_68 rfl ?_
            exact absurd (rt3 h).1 he
          · replace h := (if_neg c5).symm.trans h
            by_cases c7 : l1 = 2
            · replace h := (if_pos c7).symm.trans h
              refine s_tswIn (tgt := 72) hX dX9_planned_24 (v := 2) c7 (by decide) (by decide) rfl (by decide) ?_
              refine s_aload_n hX dX9_planned_72 rfl ?_
              refine s_getR (r := 97) hX fo_RX9_40_8 SH_0 rfl dX9_planned_73 ?_
              refine s_iconst 2 hX dX9_planned_76 (by decide) ?_
              obtain ⟨r6, hc, h⟩ := bn_some h
              refine s_callVI _ hX (cX5_countAt_ok (sl X)  hc) SH_97 mv_RX9_229_4 (fun _ => rfl) (by decide) (Nat.le_of_ble_eq_true rfl) hcs dX9_planned_77 rfl ?_
              exact absurd (rt3 h).1 he
            · replace h := (if_neg c7).symm.trans h
              by_cases c8 : l1 = 3
              · replace h := (if_pos c8).symm.trans h
                refine s_tswIn (tgt := 81) hX dX9_planned_24 (v := 3) c8 (by decide) (by decide) rfl (by decide) ?_
                refine s_aload_n hX dX9_planned_81 rfl ?_
                refine s_getR (r := 97) hX fo_RX9_40_8 SH_0 rfl dX9_planned_82 ?_
                refine s_getI hX fo_RX9_259_4 SH_97 rfl dX9_planned_85 ?_
                exact absurd (rt3 h).1 he
              · replace h := (if_neg c8).symm.trans h
                refine s_tswOut (tgt := 89) hX dX9_planned_24 (tsw_out0_3 l1 c3 c5 c7 c8) (by decide) ?_
                refine s_aload_n hX dX9_planned_89 rfl ?_
                refine s_getR (r := 97) hX fo_RX9_40_8 SH_0 rfl dX9_planned_90 ?_
                obtain ⟨r9, hc, h⟩ := bn_some h
                refine s_callVI _ hX (cX5_totalCost_ok (sl X)  hc) SH_97 mv_RX9_262_4 (fun _ => rfl) (by decide) (Nat.le_of_ble_eq_true rfl) hcs dX9_planned_93 rfl ?_
                exact absurd (rt3 h).1 he
      · exact s_callVTV _ hX (cX9_requirePlan_th (sl X) hlX  he hc) SH_0 rfl mt_RX9_234 (fun _ => rfl) (by decide) (Nat.le_of_ble_eq_true rfl) hct dX9_planned_20 rfl hpr
    · replace h := (if_neg c10).symm.trans h
      obtain ⟨rfl, -, rfl⟩ := rt3 h
      exact hthr _ _ _ 76 251 80 _ xw_1_76_80 (List.mem_of_getElem? (i := 18) rfl) dX9_planned_9 dX9_planned_12 (Or.inl ⟨dX9_planned_13, dX9_planned_15, dX9_planned_18⟩) (Nat.le_of_ble_eq_true rfl)
def fX9_requireLimit (σ : Mm) (l0 : Int32) : Option Rx :=
  if l0 < 1 then
  some (1, 0, σ)
else
  if l0 ≤ 1000 then
  some (0, 0, σ)
else
  some (1, 0, σ)
set_option maxHeartbeats 4000000 in
theorem cX9_requireLimit_ok (l : Launch) {σ : Mm} {l0 : Int32} {r : Int32} {σ' : Mm}  (h : fX9_requireLimit σ l0 = some (0, r, σ')) : cV l yX9_requireLimit cX9_requireLimit 1 8 120 (fun ad => [.int l0]) σ σ' := by
  refine c_enterV (fun ad => [some (.int l0)]) (by decide) (fun ad => ⟨by simp [Value.category], Nat.le_of_ble_eq_true rfl⟩) (fun ad => ⟨0, rfl⟩) ?_
  intro X _ hX hret
  have hcs : ((0 : Nat), (0 : Nat)).1 ≤ (sR X).cells ∧ ((0 : Nat), (0 : Nat)).2 ≤ (sR X).slots := ⟨Nat.zero_le _, Nat.zero_le _⟩
  generalize hcs0 : ((0 : Nat), (0 : Nat)) = cs at hcs hret ⊢
  unfold fX9_requireLimit at h
  show sW X 1 cs σ 0 [some (.int l0)] []
  refine s_iload_n hX dX9_requireLimit_0 rfl ?_
  refine s_iconst 1 hX dX9_requireLimit_1 (by decide) ?_
  refine s_ic_lt (tgt := 12) hX dX9_requireLimit_2 (by decide) (fun c2 => ?_) (fun c2 => ?_)
  · replace h := (if_pos c2).symm.trans h
    exact absurd (rt3 h).1 (by decide)
  · replace h := (if_neg c2).symm.trans h
    refine s_iload_n hX dX9_requireLimit_5 rfl ?_
    refine s_sipush 1000 hX dX9_requireLimit_6 (by decide) ?_
    refine s_ic_le (tgt := 23) hX dX9_requireLimit_9 (by decide) (fun c1 => ?_) (fun c1 => ?_)
    · replace h := (if_pos c1).symm.trans h
      obtain ⟨-, -, rfl⟩ := rt3 h
      exact hret _ _ dX9_requireLimit_23
    · replace h := (if_neg c1).symm.trans h
      exact absurd (rt3 h).1 (by decide)
set_option maxHeartbeats 4000000 in
theorem cX9_requireLimit_th (l : Launch) (hl : l.stackTraces = false) {σ : Mm} {l0 : Int32} {e : Nat} {r : Int32} {σ' : Mm}  (he : e ≠ 0) (h : fX9_requireLimit σ l0 = some (e, r, σ')) : cTV l yX9_requireLimit cX9_requireLimit 1 8 120 (fun ad => [.int l0]) σ e σ' := by
  refine c_enterTV (fun ad => [some (.int l0)]) hl (by decide) rfl (by decide) (by decide) (fun ad => ⟨by simp [Value.category], Nat.le_of_ble_eq_true rfl⟩) (fun ad => ⟨0, rfl⟩) ?_
  intro X hsl hX hct hthr hpr
  have hlX : (sl X).stackTraces = false := by rw [hsl]; exact hl
  have hcs : ((0 : Nat), (0 : Nat)).1 ≤ (sR X).cells ∧ ((0 : Nat), (0 : Nat)).2 ≤ (sR X).slots := ⟨Nat.zero_le _, Nat.zero_le _⟩
  replace hct : ((0 : Nat), (0 : Nat)).1 + 1 ≤ (sR X).cells ∧ ((0 : Nat), (0 : Nat)).2 + 6 ≤ (sR X).slots := hct
  generalize hcs0 : ((0 : Nat), (0 : Nat)) = cs at hcs hct hthr hpr ⊢
  unfold fX9_requireLimit at h
  show sW X 1 cs σ 0 [some (.int l0)] []
  refine s_iload_n hX dX9_requireLimit_0 rfl ?_
  refine s_iconst 1 hX dX9_requireLimit_1 (by decide) ?_
  refine s_ic_lt (tgt := 12) hX dX9_requireLimit_2 (by decide) (fun c2 => ?_) (fun c2 => ?_)
  · replace h := (if_pos c2).symm.trans h
    obtain ⟨rfl, -, rfl⟩ := rt3 h
    exact hthr _ _ _ 76 374 80 _ xw_1_76_80 (List.mem_of_getElem? (i := 19) rfl) dX9_requireLimit_12 dX9_requireLimit_15 (Or.inr ⟨by decide, dX9_requireLimit_16, dX9_requireLimit_19, dX9_requireLimit_22⟩) (Nat.le_of_ble_eq_true rfl)
  · replace h := (if_neg c2).symm.trans h
    refine s_iload_n hX dX9_requireLimit_5 rfl ?_
    refine s_sipush 1000 hX dX9_requireLimit_6 (by decide) ?_
    refine s_ic_le (tgt := 23) hX dX9_requireLimit_9 (by decide) (fun c1 => ?_) (fun c1 => ?_)
    · replace h := (if_pos c1).symm.trans h
      exact absurd (rt3 h).1 he
    · replace h := (if_neg c1).symm.trans h
      obtain ⟨rfl, -, rfl⟩ := rt3 h
      exact hthr _ _ _ 76 374 80 _ xw_1_76_80 (List.mem_of_getElem? (i := 19) rfl) dX9_requireLimit_12 dX9_requireLimit_15 (Or.inr ⟨by decide, dX9_requireLimit_16, dX9_requireLimit_19, dX9_requireLimit_22⟩) (Nat.le_of_ble_eq_true rfl)
def fX9_resultOf_104 (σ : Mm) (l2 : Int32) : Option Rx :=
  bn2 (fX3_execute_q σ l2) fun r1 σ2 =>
  if r1 = 0 then
  some (6, 0, σ2)
else
  gd 0 4 <|
  bd (upm σ2 121 (upd (σ2 121) (Int32.toNatClampNeg 0) (σ2 104 3))) fun σ4 =>
  gd 1 4 <|
  bd (upm σ4 121 (upd (σ4 121) (Int32.toNatClampNeg 1) (σ4 104 4))) fun σ6 =>
  gd 2 4 <|
  bd (upm σ6 121 (upd (σ6 121) (Int32.toNatClampNeg 2) (σ6 104 5))) fun σ8 =>
  gd 3 4 <|
  bd (upm σ8 121 (upd (σ8 121) (Int32.toNatClampNeg 3) (σ8 104 6))) fun σ10 =>
  bd (upm σ10 122 (va_cpy (σ10 105) (σ10 122) 0 0 8)) fun σ11 =>
  some (0, σ11 104 7, σ11)
set_option maxHeartbeats 4000000 in
theorem cX9_resultOf_104_ok (l : Launch) {σ : Mm} {l2 : Int32} {r : Int32} {σ' : Mm}  (h : fX9_resultOf_104 σ l2 = some (0, r, σ')) : cI l yX9_resultOf cX9_resultOf 3 .int 8 120 (fun ad => [.ref (ad 0), .ref (ad 104), .int l2]) σ r σ' := by
  refine c_enterI (fun ad => [some (.ref (ad 0)), some (.ref (ad 104)), some (.int l2)]) (by decide) (fun ad => ⟨by simp [Value.category], Nat.le_of_ble_eq_true rfl⟩) (fun ad => ⟨0, rfl⟩) ?_
  intro X _ hX hret
  have hcs : ((0 : Nat), (0 : Nat)).1 ≤ (sR X).cells ∧ ((0 : Nat), (0 : Nat)).2 ≤ (sR X).slots := ⟨Nat.zero_le _, Nat.zero_le _⟩
  generalize hcs0 : ((0 : Nat), (0 : Nat)) = cs at hcs hret ⊢
  unfold fX9_resultOf_104 at h
  show sW X 3 cs σ 0 [some (.ref (sad X 0)), some (.ref (sad X 104)), some (.int l2)] []
  refine s_aload_n hX dX9_resultOf_0 rfl ?_
  refine s_iload_n hX dX9_resultOf_1 rfl ?_
  obtain ⟨r1, σ2, hc, h⟩ := bn2_some h
  refine s_callVI _ hX (cX3_execute_q_ok (sl X)  hc) SH_104 mv_RX9_329_3 (fun _ => rfl) (by decide) (Nat.le_of_ble_eq_true rfl) hcs dX9_resultOf_2 rfl ?_
  refine s_if_ne (tgt := 19) hX dX9_resultOf_5 (by decide) (fun c12 => ?_) (fun c12 => ?_)
  · replace h := (if_neg c12).symm.trans h
    refine s_aload_n hX dX9_resultOf_19 rfl ?_
    refine s_getR (r := 121) hX fo_RX9_70_8 SH_0 rfl dX9_resultOf_20 ?_
    refine s_iconst 0 hX dX9_resultOf_23 (by decide) ?_
    refine s_aload_n hX dX9_resultOf_24 rfl ?_
    refine s_getI hX fo_RX9_339_3 SH_104 rfl dX9_resultOf_25 ?_
    obtain ⟨c3, h⟩ := gd_some h
    obtain ⟨σ4, eσ4, h⟩ := bd_some h
    refine s_iast hX SH_121 c3 dX9_resultOf_28 ?_
    refine s_mem σ4 eσ4 ?_
    refine s_aload_n hX dX9_resultOf_29 rfl ?_
    refine s_getR (r := 121) hX fo_RX9_70_8 SH_0 rfl dX9_resultOf_30 ?_
    refine s_iconst 1 hX dX9_resultOf_33 (by decide) ?_
    refine s_aload_n hX dX9_resultOf_34 rfl ?_
    refine s_getI hX fo_RX9_342_3 SH_104 rfl dX9_resultOf_35 ?_
    obtain ⟨c5, h⟩ := gd_some h
    obtain ⟨σ6, eσ6, h⟩ := bd_some h
    refine s_iast hX SH_121 c5 dX9_resultOf_38 ?_
    refine s_mem σ6 eσ6 ?_
    refine s_aload_n hX dX9_resultOf_39 rfl ?_
    refine s_getR (r := 121) hX fo_RX9_70_8 SH_0 rfl dX9_resultOf_40 ?_
    refine s_iconst 2 hX dX9_resultOf_43 (by decide) ?_
    refine s_aload_n hX dX9_resultOf_44 rfl ?_
    refine s_getI hX fo_RX9_345_3 SH_104 rfl dX9_resultOf_45 ?_
    obtain ⟨c7, h⟩ := gd_some h
    obtain ⟨σ8, eσ8, h⟩ := bd_some h
    refine s_iast hX SH_121 c7 dX9_resultOf_48 ?_
    refine s_mem σ8 eσ8 ?_
    refine s_aload_n hX dX9_resultOf_49 rfl ?_
    refine s_getR (r := 121) hX fo_RX9_70_8 SH_0 rfl dX9_resultOf_50 ?_
    refine s_iconst 3 hX dX9_resultOf_53 (by decide) ?_
    refine s_aload_n hX dX9_resultOf_54 rfl ?_
    refine s_getI hX fo_RX9_348_3 SH_104 rfl dX9_resultOf_55 ?_
    obtain ⟨c9, h⟩ := gd_some h
    obtain ⟨σ10, eσ10, h⟩ := bd_some h
    refine s_iast hX SH_121 c9 dX9_resultOf_58 ?_
    refine s_mem σ10 eσ10 ?_
    refine s_aload_n hX dX9_resultOf_59 rfl ?_
    refine s_getR (r := 105) hX fo_RX9_351_3 SH_104 rfl dX9_resultOf_60 ?_
    refine s_iconst 0 hX dX9_resultOf_63 (by decide) ?_
    refine s_aload_n hX dX9_resultOf_64 rfl ?_
    refine s_getR (r := 122) hX fo_RX9_73_8 SH_0 rfl dX9_resultOf_65 ?_
    refine s_iconst 0 hX dX9_resultOf_68 (by decide) ?_
    refine s_bipush 8 hX dX9_resultOf_69 (by decide) ?_
    obtain ⟨σ11, eσ11, h⟩ := bd_some h
    refine s_copy hX SH_105 SH_122 w5_172 (by decide) (by decide) (Nat.le_of_ble_eq_true rfl) dX9_resultOf_71 ?_
    refine s_mem σ11 eσ11 ?_
    refine s_aload_n hX dX9_resultOf_74 rfl ?_
    refine s_getI hX fo_RX9_360_3 SH_104 rfl dX9_resultOf_75 ?_
    obtain ⟨-, rfl, rfl⟩ := rt3 h
    exact hret _ _ (nzi _) dX9_resultOf_78
  · replace h := (if_pos c12).symm.trans h
    exact absurd (rt3 h).1 (by decide)
set_option maxHeartbeats 4000000 in
theorem cX9_resultOf_104_th (l : Launch) (hl : l.stackTraces = false) {σ : Mm} {l2 : Int32} {e : Nat} {r : Int32} {σ' : Mm}  (he : e ≠ 0) (h : fX9_resultOf_104 σ l2 = some (e, r, σ')) : cTI l yX9_resultOf cX9_resultOf 3 .int 8 120 (fun ad => [.ref (ad 0), .ref (ad 104), .int l2]) σ e σ' := by
  refine c_enterTI (fun ad => [some (.ref (ad 0)), some (.ref (ad 104)), some (.int l2)]) hl (by decide) rfl (by decide) (by decide) (fun ad => ⟨by simp [Value.category], Nat.le_of_ble_eq_true rfl⟩) (fun ad => ⟨0, rfl⟩) ?_
  intro X hsl hX hct hthr hpr
  have hlX : (sl X).stackTraces = false := by rw [hsl]; exact hl
  have hcs : ((0 : Nat), (0 : Nat)).1 ≤ (sR X).cells ∧ ((0 : Nat), (0 : Nat)).2 ≤ (sR X).slots := ⟨Nat.zero_le _, Nat.zero_le _⟩
  replace hct : ((0 : Nat), (0 : Nat)).1 + 1 ≤ (sR X).cells ∧ ((0 : Nat), (0 : Nat)).2 + 6 ≤ (sR X).slots := hct
  generalize hcs0 : ((0 : Nat), (0 : Nat)) = cs at hcs hct hthr hpr ⊢
  unfold fX9_resultOf_104 at h
  show sW X 3 cs σ 0 [some (.ref (sad X 0)), some (.ref (sad X 104)), some (.int l2)] []
  refine s_aload_n hX dX9_resultOf_0 rfl ?_
  refine s_iload_n hX dX9_resultOf_1 rfl ?_
  obtain ⟨r1, σ2, hc, h⟩ := bn2_some h
  refine s_callVI _ hX (cX3_execute_q_ok (sl X)  hc) SH_104 mv_RX9_329_3 (fun _ => rfl) (by decide) (Nat.le_of_ble_eq_true rfl) hcs dX9_resultOf_2 rfl ?_
  refine s_if_ne (tgt := 19) hX dX9_resultOf_5 (by decide) (fun c12 => ?_) (fun c12 => ?_)
  · replace h := (if_neg c12).symm.trans h
    refine s_aload_n hX dX9_resultOf_19 rfl ?_
    refine s_getR (r := 121) hX fo_RX9_70_8 SH_0 rfl dX9_resultOf_20 ?_
    refine s_iconst 0 hX dX9_resultOf_23 (by decide) ?_
    refine s_aload_n hX dX9_resultOf_24 rfl ?_
    refine s_getI hX fo_RX9_339_3 SH_104 rfl dX9_resultOf_25 ?_
    obtain ⟨c3, h⟩ := gd_some h
    obtain ⟨σ4, eσ4, h⟩ := bd_some h
    refine s_iast hX SH_121 c3 dX9_resultOf_28 ?_
    refine s_mem σ4 eσ4 ?_
    refine s_aload_n hX dX9_resultOf_29 rfl ?_
    refine s_getR (r := 121) hX fo_RX9_70_8 SH_0 rfl dX9_resultOf_30 ?_
    refine s_iconst 1 hX dX9_resultOf_33 (by decide) ?_
    refine s_aload_n hX dX9_resultOf_34 rfl ?_
    refine s_getI hX fo_RX9_342_3 SH_104 rfl dX9_resultOf_35 ?_
    obtain ⟨c5, h⟩ := gd_some h
    obtain ⟨σ6, eσ6, h⟩ := bd_some h
    refine s_iast hX SH_121 c5 dX9_resultOf_38 ?_
    refine s_mem σ6 eσ6 ?_
    refine s_aload_n hX dX9_resultOf_39 rfl ?_
    refine s_getR (r := 121) hX fo_RX9_70_8 SH_0 rfl dX9_resultOf_40 ?_
    refine s_iconst 2 hX dX9_resultOf_43 (by decide) ?_
    refine s_aload_n hX dX9_resultOf_44 rfl ?_
    refine s_getI hX fo_RX9_345_3 SH_104 rfl dX9_resultOf_45 ?_
    obtain ⟨c7, h⟩ := gd_some h
    obtain ⟨σ8, eσ8, h⟩ := bd_some h
    refine s_iast hX SH_121 c7 dX9_resultOf_48 ?_
    refine s_mem σ8 eσ8 ?_
    refine s_aload_n hX dX9_resultOf_49 rfl ?_
    refine s_getR (r := 121) hX fo_RX9_70_8 SH_0 rfl dX9_resultOf_50 ?_
    refine s_iconst 3 hX dX9_resultOf_53 (by decide) ?_
    refine s_aload_n hX dX9_resultOf_54 rfl ?_
    refine s_getI hX fo_RX9_348_3 SH_104 rfl dX9_resultOf_55 ?_
    obtain ⟨c9, h⟩ := gd_some h
    obtain ⟨σ10, eσ10, h⟩ := bd_some h
    refine s_iast hX SH_121 c9 dX9_resultOf_58 ?_
    refine s_mem σ10 eσ10 ?_
    refine s_aload_n hX dX9_resultOf_59 rfl ?_
    refine s_getR (r := 105) hX fo_RX9_351_3 SH_104 rfl dX9_resultOf_60 ?_
    refine s_iconst 0 hX dX9_resultOf_63 (by decide) ?_
    refine s_aload_n hX dX9_resultOf_64 rfl ?_
    refine s_getR (r := 122) hX fo_RX9_73_8 SH_0 rfl dX9_resultOf_65 ?_
    refine s_iconst 0 hX dX9_resultOf_68 (by decide) ?_
    refine s_bipush 8 hX dX9_resultOf_69 (by decide) ?_
    obtain ⟨σ11, eσ11, h⟩ := bd_some h
    refine s_copy hX SH_105 SH_122 w5_172 (by decide) (by decide) (Nat.le_of_ble_eq_true rfl) dX9_resultOf_71 ?_
    refine s_mem σ11 eσ11 ?_
    refine s_aload_n hX dX9_resultOf_74 rfl ?_
    refine s_getI hX fo_RX9_360_3 SH_104 rfl dX9_resultOf_75 ?_
    exact absurd (rt3 h).1 he
  · replace h := (if_pos c12).symm.trans h
    obtain ⟨rfl, -, rfl⟩ := rt3 h
    exact hthr _ _ _ 334 336 338 _ xw_6_334_338 (List.mem_of_getElem? (i := 20) rfl) dX9_resultOf_8 dX9_resultOf_11 (Or.inr ⟨by decide, dX9_resultOf_12, dX9_resultOf_15, dX9_resultOf_18⟩) (Nat.le_of_ble_eq_true rfl)
def fX9_run (σ : Mm) (l1 : Int32) : Option Rx :=
  bnT (fX9_requireLimit σ l1) fun r1 σ2 =>
  bnT (fX9_resultOf_104 σ2 l1) fun r3 σ4 =>
  some (0, r3, σ4)
set_option maxHeartbeats 4000000 in
theorem cX9_run_ok (l : Launch) {σ : Mm} {l1 : Int32} {r : Int32} {σ' : Mm}  (h : fX9_run σ l1 = some (0, r, σ')) : cI l yX9_run cX9_run 2 .int 9 142 (fun ad => [.ref (ad 0), .int l1]) σ r σ' := by
  refine c_enterI (fun ad => [some (.ref (ad 0)), some (.int l1)]) (by decide) (fun ad => ⟨by simp [Value.category], Nat.le_of_ble_eq_true rfl⟩) (fun ad => ⟨0, rfl⟩) ?_
  intro X _ hX hret
  have hcs : ((0 : Nat), (0 : Nat)).1 ≤ (sR X).cells ∧ ((0 : Nat), (0 : Nat)).2 ≤ (sR X).slots := ⟨Nat.zero_le _, Nat.zero_le _⟩
  generalize hcs0 : ((0 : Nat), (0 : Nat)) = cs at hcs hret ⊢
  unfold fX9_run at h
  show sW X 2 cs σ 0 [some (.ref (sad X 0)), some (.int l1)] []
  refine s_iload_n hX dX9_run_0 rfl ?_
  obtain ⟨r1, σ2, hc, h⟩ := bnT_0 h
  refine s_callSV _ hX (cX9_requireLimit_ok (sl X)  hc) ms_RX9_282 (fun _ => rfl) (by decide) (Nat.le_of_ble_eq_true rfl) hcs dX9_run_1 rfl ?_
  refine s_aload_n hX dX9_run_4 rfl ?_
  refine s_aload_n hX dX9_run_5 rfl ?_
  refine s_getR (r := 104) hX fo_RX9_47_8 SH_0 rfl dX9_run_6 ?_
  refine s_iload_n hX dX9_run_9 rfl ?_
  obtain ⟨r3, σ4, hc, h⟩ := bnT_0 h
  refine s_callVI _ hX (cX9_resultOf_104_ok (sl X)  hc) SH_0 mv_RX9_285_8 (fun _ => rfl) (by decide) (Nat.le_of_ble_eq_true rfl) hcs dX9_run_10 rfl ?_
  obtain ⟨-, rfl, rfl⟩ := rt3 h
  exact hret _ _ (nzi _) dX9_run_13
set_option maxHeartbeats 4000000 in
theorem cX9_run_th (l : Launch) (hl : l.stackTraces = false) {σ : Mm} {l1 : Int32} {e : Nat} {r : Int32} {σ' : Mm}  (he : e ≠ 0) (h : fX9_run σ l1 = some (e, r, σ')) : cTI l yX9_run cX9_run 2 .int 9 142 (fun ad => [.ref (ad 0), .int l1]) σ e σ' := by
  refine c_enterTI (fun ad => [some (.ref (ad 0)), some (.int l1)]) hl (by decide) rfl (by decide) (by decide) (fun ad => ⟨by simp [Value.category], Nat.le_of_ble_eq_true rfl⟩) (fun ad => ⟨0, rfl⟩) ?_
  intro X hsl hX hct hthr hpr
  have hlX : (sl X).stackTraces = false := by rw [hsl]; exact hl
  have hcs : ((0 : Nat), (0 : Nat)).1 ≤ (sR X).cells ∧ ((0 : Nat), (0 : Nat)).2 ≤ (sR X).slots := ⟨Nat.zero_le _, Nat.zero_le _⟩
  replace hct : ((0 : Nat), (0 : Nat)).1 + 1 ≤ (sR X).cells ∧ ((0 : Nat), (0 : Nat)).2 + 6 ≤ (sR X).slots := hct
  generalize hcs0 : ((0 : Nat), (0 : Nat)) = cs at hcs hct hthr hpr ⊢
  unfold fX9_run at h
  show sW X 2 cs σ 0 [some (.ref (sad X 0)), some (.int l1)] []
  refine s_iload_n hX dX9_run_0 rfl ?_
  rcases bnT_e he h with ⟨r1, σ2, hc, h⟩ | ⟨r1, hc⟩
  · refine s_callSV _ hX (cX9_requireLimit_ok (sl X)  hc) ms_RX9_282 (fun _ => rfl) (by decide) (Nat.le_of_ble_eq_true rfl) hcs dX9_run_1 rfl ?_
    refine s_aload_n hX dX9_run_4 rfl ?_
    refine s_aload_n hX dX9_run_5 rfl ?_
    refine s_getR (r := 104) hX fo_RX9_47_8 SH_0 rfl dX9_run_6 ?_
    refine s_iload_n hX dX9_run_9 rfl ?_
    rcases bnT_e he h with ⟨r3, σ4, hc, h⟩ | ⟨r3, hc⟩
    · refine s_callVI _ hX (cX9_resultOf_104_ok (sl X)  hc) SH_0 mv_RX9_285_8 (fun _ => rfl) (by decide) (Nat.le_of_ble_eq_true rfl) hcs dX9_run_10 rfl ?_
      exact absurd (rt3 h).1 he
    · exact s_callVTI _ hX (cX9_resultOf_104_th (sl X) hlX  he hc) SH_0 rfl mt_RX9_285 (fun _ => rfl) (by decide) (Nat.le_of_ble_eq_true rfl) hct dX9_run_10 rfl hpr
  · exact s_callSTV _ hX (cX9_requireLimit_th (sl X) hlX  he hc) mt_RX9_282 (fun _ => rfl) (by decide) (Nat.le_of_ble_eq_true rfl) hct dX9_run_1 rfl hpr
def fX9_resultOf_107 (σ : Mm) (l2 : Int32) : Option Rx :=
  bn2 (fX3_execute_r σ l2) fun r1 σ2 =>
  if r1 = 0 then
  some (6, 0, σ2)
else
  gd 0 4 <|
  bd (upm σ2 121 (upd (σ2 121) (Int32.toNatClampNeg 0) (σ2 107 3))) fun σ4 =>
  gd 1 4 <|
  bd (upm σ4 121 (upd (σ4 121) (Int32.toNatClampNeg 1) (σ4 107 4))) fun σ6 =>
  gd 2 4 <|
  bd (upm σ6 121 (upd (σ6 121) (Int32.toNatClampNeg 2) (σ6 107 5))) fun σ8 =>
  gd 3 4 <|
  bd (upm σ8 121 (upd (σ8 121) (Int32.toNatClampNeg 3) (σ8 107 6))) fun σ10 =>
  bd (upm σ10 122 (va_cpy (σ10 108) (σ10 122) 0 0 8)) fun σ11 =>
  some (0, σ11 107 7, σ11)
set_option maxHeartbeats 4000000 in
theorem cX9_resultOf_107_ok (l : Launch) {σ : Mm} {l2 : Int32} {r : Int32} {σ' : Mm}  (h : fX9_resultOf_107 σ l2 = some (0, r, σ')) : cI l yX9_resultOf cX9_resultOf 3 .int 8 120 (fun ad => [.ref (ad 0), .ref (ad 107), .int l2]) σ r σ' := by
  refine c_enterI (fun ad => [some (.ref (ad 0)), some (.ref (ad 107)), some (.int l2)]) (by decide) (fun ad => ⟨by simp [Value.category], Nat.le_of_ble_eq_true rfl⟩) (fun ad => ⟨0, rfl⟩) ?_
  intro X _ hX hret
  have hcs : ((0 : Nat), (0 : Nat)).1 ≤ (sR X).cells ∧ ((0 : Nat), (0 : Nat)).2 ≤ (sR X).slots := ⟨Nat.zero_le _, Nat.zero_le _⟩
  generalize hcs0 : ((0 : Nat), (0 : Nat)) = cs at hcs hret ⊢
  unfold fX9_resultOf_107 at h
  show sW X 3 cs σ 0 [some (.ref (sad X 0)), some (.ref (sad X 107)), some (.int l2)] []
  refine s_aload_n hX dX9_resultOf_0 rfl ?_
  refine s_iload_n hX dX9_resultOf_1 rfl ?_
  obtain ⟨r1, σ2, hc, h⟩ := bn2_some h
  refine s_callVI _ hX (cX3_execute_r_ok (sl X)  hc) SH_107 mv_RX9_329_5 (fun _ => rfl) (by decide) (Nat.le_of_ble_eq_true rfl) hcs dX9_resultOf_2 rfl ?_
  refine s_if_ne (tgt := 19) hX dX9_resultOf_5 (by decide) (fun c12 => ?_) (fun c12 => ?_)
  · replace h := (if_neg c12).symm.trans h
    refine s_aload_n hX dX9_resultOf_19 rfl ?_
    refine s_getR (r := 121) hX fo_RX9_70_8 SH_0 rfl dX9_resultOf_20 ?_
    refine s_iconst 0 hX dX9_resultOf_23 (by decide) ?_
    refine s_aload_n hX dX9_resultOf_24 rfl ?_
    refine s_getI hX fo_RX9_339_5 SH_107 rfl dX9_resultOf_25 ?_
    obtain ⟨c3, h⟩ := gd_some h
    obtain ⟨σ4, eσ4, h⟩ := bd_some h
    refine s_iast hX SH_121 c3 dX9_resultOf_28 ?_
    refine s_mem σ4 eσ4 ?_
    refine s_aload_n hX dX9_resultOf_29 rfl ?_
    refine s_getR (r := 121) hX fo_RX9_70_8 SH_0 rfl dX9_resultOf_30 ?_
    refine s_iconst 1 hX dX9_resultOf_33 (by decide) ?_
    refine s_aload_n hX dX9_resultOf_34 rfl ?_
    refine s_getI hX fo_RX9_342_5 SH_107 rfl dX9_resultOf_35 ?_
    obtain ⟨c5, h⟩ := gd_some h
    obtain ⟨σ6, eσ6, h⟩ := bd_some h
    refine s_iast hX SH_121 c5 dX9_resultOf_38 ?_
    refine s_mem σ6 eσ6 ?_
    refine s_aload_n hX dX9_resultOf_39 rfl ?_
    refine s_getR (r := 121) hX fo_RX9_70_8 SH_0 rfl dX9_resultOf_40 ?_
    refine s_iconst 2 hX dX9_resultOf_43 (by decide) ?_
    refine s_aload_n hX dX9_resultOf_44 rfl ?_
    refine s_getI hX fo_RX9_345_5 SH_107 rfl dX9_resultOf_45 ?_
    obtain ⟨c7, h⟩ := gd_some h
    obtain ⟨σ8, eσ8, h⟩ := bd_some h
    refine s_iast hX SH_121 c7 dX9_resultOf_48 ?_
    refine s_mem σ8 eσ8 ?_
    refine s_aload_n hX dX9_resultOf_49 rfl ?_
    refine s_getR (r := 121) hX fo_RX9_70_8 SH_0 rfl dX9_resultOf_50 ?_
    refine s_iconst 3 hX dX9_resultOf_53 (by decide) ?_
    refine s_aload_n hX dX9_resultOf_54 rfl ?_
    refine s_getI hX fo_RX9_348_5 SH_107 rfl dX9_resultOf_55 ?_
    obtain ⟨c9, h⟩ := gd_some h
    obtain ⟨σ10, eσ10, h⟩ := bd_some h
    refine s_iast hX SH_121 c9 dX9_resultOf_58 ?_
    refine s_mem σ10 eσ10 ?_
    refine s_aload_n hX dX9_resultOf_59 rfl ?_
    refine s_getR (r := 108) hX fo_RX9_351_5 SH_107 rfl dX9_resultOf_60 ?_
    refine s_iconst 0 hX dX9_resultOf_63 (by decide) ?_
    refine s_aload_n hX dX9_resultOf_64 rfl ?_
    refine s_getR (r := 122) hX fo_RX9_73_8 SH_0 rfl dX9_resultOf_65 ?_
    refine s_iconst 0 hX dX9_resultOf_68 (by decide) ?_
    refine s_bipush 8 hX dX9_resultOf_69 (by decide) ?_
    obtain ⟨σ11, eσ11, h⟩ := bd_some h
    refine s_copy hX SH_108 SH_122 w5_172 (by decide) (by decide) (Nat.le_of_ble_eq_true rfl) dX9_resultOf_71 ?_
    refine s_mem σ11 eσ11 ?_
    refine s_aload_n hX dX9_resultOf_74 rfl ?_
    refine s_getI hX fo_RX9_360_5 SH_107 rfl dX9_resultOf_75 ?_
    obtain ⟨-, rfl, rfl⟩ := rt3 h
    exact hret _ _ (nzi _) dX9_resultOf_78
  · replace h := (if_pos c12).symm.trans h
    exact absurd (rt3 h).1 (by decide)
set_option maxHeartbeats 4000000 in
theorem cX9_resultOf_107_th (l : Launch) (hl : l.stackTraces = false) {σ : Mm} {l2 : Int32} {e : Nat} {r : Int32} {σ' : Mm}  (he : e ≠ 0) (h : fX9_resultOf_107 σ l2 = some (e, r, σ')) : cTI l yX9_resultOf cX9_resultOf 3 .int 8 120 (fun ad => [.ref (ad 0), .ref (ad 107), .int l2]) σ e σ' := by
  refine c_enterTI (fun ad => [some (.ref (ad 0)), some (.ref (ad 107)), some (.int l2)]) hl (by decide) rfl (by decide) (by decide) (fun ad => ⟨by simp [Value.category], Nat.le_of_ble_eq_true rfl⟩) (fun ad => ⟨0, rfl⟩) ?_
  intro X hsl hX hct hthr hpr
  have hlX : (sl X).stackTraces = false := by rw [hsl]; exact hl
  have hcs : ((0 : Nat), (0 : Nat)).1 ≤ (sR X).cells ∧ ((0 : Nat), (0 : Nat)).2 ≤ (sR X).slots := ⟨Nat.zero_le _, Nat.zero_le _⟩
  replace hct : ((0 : Nat), (0 : Nat)).1 + 1 ≤ (sR X).cells ∧ ((0 : Nat), (0 : Nat)).2 + 6 ≤ (sR X).slots := hct
  generalize hcs0 : ((0 : Nat), (0 : Nat)) = cs at hcs hct hthr hpr ⊢
  unfold fX9_resultOf_107 at h
  show sW X 3 cs σ 0 [some (.ref (sad X 0)), some (.ref (sad X 107)), some (.int l2)] []
  refine s_aload_n hX dX9_resultOf_0 rfl ?_
  refine s_iload_n hX dX9_resultOf_1 rfl ?_
  obtain ⟨r1, σ2, hc, h⟩ := bn2_some h
  refine s_callVI _ hX (cX3_execute_r_ok (sl X)  hc) SH_107 mv_RX9_329_5 (fun _ => rfl) (by decide) (Nat.le_of_ble_eq_true rfl) hcs dX9_resultOf_2 rfl ?_
  refine s_if_ne (tgt := 19) hX dX9_resultOf_5 (by decide) (fun c12 => ?_) (fun c12 => ?_)
  · replace h := (if_neg c12).symm.trans h
    refine s_aload_n hX dX9_resultOf_19 rfl ?_
    refine s_getR (r := 121) hX fo_RX9_70_8 SH_0 rfl dX9_resultOf_20 ?_
    refine s_iconst 0 hX dX9_resultOf_23 (by decide) ?_
    refine s_aload_n hX dX9_resultOf_24 rfl ?_
    refine s_getI hX fo_RX9_339_5 SH_107 rfl dX9_resultOf_25 ?_
    obtain ⟨c3, h⟩ := gd_some h
    obtain ⟨σ4, eσ4, h⟩ := bd_some h
    refine s_iast hX SH_121 c3 dX9_resultOf_28 ?_
    refine s_mem σ4 eσ4 ?_
    refine s_aload_n hX dX9_resultOf_29 rfl ?_
    refine s_getR (r := 121) hX fo_RX9_70_8 SH_0 rfl dX9_resultOf_30 ?_
    refine s_iconst 1 hX dX9_resultOf_33 (by decide) ?_
    refine s_aload_n hX dX9_resultOf_34 rfl ?_
    refine s_getI hX fo_RX9_342_5 SH_107 rfl dX9_resultOf_35 ?_
    obtain ⟨c5, h⟩ := gd_some h
    obtain ⟨σ6, eσ6, h⟩ := bd_some h
    refine s_iast hX SH_121 c5 dX9_resultOf_38 ?_
    refine s_mem σ6 eσ6 ?_
    refine s_aload_n hX dX9_resultOf_39 rfl ?_
    refine s_getR (r := 121) hX fo_RX9_70_8 SH_0 rfl dX9_resultOf_40 ?_
    refine s_iconst 2 hX dX9_resultOf_43 (by decide) ?_
    refine s_aload_n hX dX9_resultOf_44 rfl ?_
    refine s_getI hX fo_RX9_345_5 SH_107 rfl dX9_resultOf_45 ?_
    obtain ⟨c7, h⟩ := gd_some h
    obtain ⟨σ8, eσ8, h⟩ := bd_some h
    refine s_iast hX SH_121 c7 dX9_resultOf_48 ?_
    refine s_mem σ8 eσ8 ?_
    refine s_aload_n hX dX9_resultOf_49 rfl ?_
    refine s_getR (r := 121) hX fo_RX9_70_8 SH_0 rfl dX9_resultOf_50 ?_
    refine s_iconst 3 hX dX9_resultOf_53 (by decide) ?_
    refine s_aload_n hX dX9_resultOf_54 rfl ?_
    refine s_getI hX fo_RX9_348_5 SH_107 rfl dX9_resultOf_55 ?_
    obtain ⟨c9, h⟩ := gd_some h
    obtain ⟨σ10, eσ10, h⟩ := bd_some h
    refine s_iast hX SH_121 c9 dX9_resultOf_58 ?_
    refine s_mem σ10 eσ10 ?_
    refine s_aload_n hX dX9_resultOf_59 rfl ?_
    refine s_getR (r := 108) hX fo_RX9_351_5 SH_107 rfl dX9_resultOf_60 ?_
    refine s_iconst 0 hX dX9_resultOf_63 (by decide) ?_
    refine s_aload_n hX dX9_resultOf_64 rfl ?_
    refine s_getR (r := 122) hX fo_RX9_73_8 SH_0 rfl dX9_resultOf_65 ?_
    refine s_iconst 0 hX dX9_resultOf_68 (by decide) ?_
    refine s_bipush 8 hX dX9_resultOf_69 (by decide) ?_
    obtain ⟨σ11, eσ11, h⟩ := bd_some h
    refine s_copy hX SH_108 SH_122 w5_172 (by decide) (by decide) (Nat.le_of_ble_eq_true rfl) dX9_resultOf_71 ?_
    refine s_mem σ11 eσ11 ?_
    refine s_aload_n hX dX9_resultOf_74 rfl ?_
    refine s_getI hX fo_RX9_360_5 SH_107 rfl dX9_resultOf_75 ?_
    exact absurd (rt3 h).1 he
  · replace h := (if_pos c12).symm.trans h
    obtain ⟨rfl, -, rfl⟩ := rt3 h
    exact hthr _ _ _ 334 336 338 _ xw_6_334_338 (List.mem_of_getElem? (i := 20) rfl) dX9_resultOf_8 dX9_resultOf_11 (Or.inr ⟨by decide, dX9_resultOf_12, dX9_resultOf_15, dX9_resultOf_18⟩) (Nat.le_of_ble_eq_true rfl)
def fX9_runPlanned (σ : Mm) (l1 : Int32) : Option Rx :=
  bnT (fX9_requireLimit σ l1) fun r1 σ2 =>
  bnT (fX9_requirePlan σ2) fun r3 σ4 =>
  bnT (fX9_resultOf_107 σ4 l1) fun r5 σ6 =>
  some (0, r5, σ6)
set_option maxHeartbeats 4000000 in
theorem cX9_runPlanned_ok (l : Launch) {σ : Mm} {l1 : Int32} {r : Int32} {σ' : Mm}  (h : fX9_runPlanned σ l1 = some (0, r, σ')) : cI l yX9_runPlanned cX9_runPlanned 2 .int 9 142 (fun ad => [.ref (ad 0), .int l1]) σ r σ' := by
  refine c_enterI (fun ad => [some (.ref (ad 0)), some (.int l1)]) (by decide) (fun ad => ⟨by simp [Value.category], Nat.le_of_ble_eq_true rfl⟩) (fun ad => ⟨0, rfl⟩) ?_
  intro X _ hX hret
  have hcs : ((0 : Nat), (0 : Nat)).1 ≤ (sR X).cells ∧ ((0 : Nat), (0 : Nat)).2 ≤ (sR X).slots := ⟨Nat.zero_le _, Nat.zero_le _⟩
  generalize hcs0 : ((0 : Nat), (0 : Nat)) = cs at hcs hret ⊢
  unfold fX9_runPlanned at h
  show sW X 2 cs σ 0 [some (.ref (sad X 0)), some (.int l1)] []
  refine s_iload_n hX dX9_runPlanned_0 rfl ?_
  obtain ⟨r1, σ2, hc, h⟩ := bnT_0 h
  refine s_callSV _ hX (cX9_requireLimit_ok (sl X)  hc) ms_RX9_282 (fun _ => rfl) (by decide) (Nat.le_of_ble_eq_true rfl) hcs dX9_runPlanned_1 rfl ?_
  refine s_aload_n hX dX9_runPlanned_4 rfl ?_
  obtain ⟨r3, σ4, hc, h⟩ := bnT_0 h
  refine s_callVV _ hX (cX9_requirePlan_ok (sl X)  hc) SH_0 mv_RX9_234_8 (fun _ => rfl) (by decide) (Nat.le_of_ble_eq_true rfl) hcs dX9_runPlanned_5 rfl ?_
  refine s_aload_n hX dX9_runPlanned_8 rfl ?_
  refine s_aload_n hX dX9_runPlanned_9 rfl ?_
  refine s_getR (r := 107) hX fo_RX9_56_8 SH_0 rfl dX9_runPlanned_10 ?_
  refine s_iload_n hX dX9_runPlanned_13 rfl ?_
  obtain ⟨r5, σ6, hc, h⟩ := bnT_0 h
  refine s_callVI _ hX (cX9_resultOf_107_ok (sl X)  hc) SH_0 mv_RX9_285_8 (fun _ => rfl) (by decide) (Nat.le_of_ble_eq_true rfl) hcs dX9_runPlanned_14 rfl ?_
  obtain ⟨-, rfl, rfl⟩ := rt3 h
  exact hret _ _ (nzi _) dX9_runPlanned_17
set_option maxHeartbeats 4000000 in
theorem cX9_runPlanned_th (l : Launch) (hl : l.stackTraces = false) {σ : Mm} {l1 : Int32} {e : Nat} {r : Int32} {σ' : Mm}  (he : e ≠ 0) (h : fX9_runPlanned σ l1 = some (e, r, σ')) : cTI l yX9_runPlanned cX9_runPlanned 2 .int 9 142 (fun ad => [.ref (ad 0), .int l1]) σ e σ' := by
  refine c_enterTI (fun ad => [some (.ref (ad 0)), some (.int l1)]) hl (by decide) rfl (by decide) (by decide) (fun ad => ⟨by simp [Value.category], Nat.le_of_ble_eq_true rfl⟩) (fun ad => ⟨0, rfl⟩) ?_
  intro X hsl hX hct hthr hpr
  have hlX : (sl X).stackTraces = false := by rw [hsl]; exact hl
  have hcs : ((0 : Nat), (0 : Nat)).1 ≤ (sR X).cells ∧ ((0 : Nat), (0 : Nat)).2 ≤ (sR X).slots := ⟨Nat.zero_le _, Nat.zero_le _⟩
  replace hct : ((0 : Nat), (0 : Nat)).1 + 1 ≤ (sR X).cells ∧ ((0 : Nat), (0 : Nat)).2 + 6 ≤ (sR X).slots := hct
  generalize hcs0 : ((0 : Nat), (0 : Nat)) = cs at hcs hct hthr hpr ⊢
  unfold fX9_runPlanned at h
  show sW X 2 cs σ 0 [some (.ref (sad X 0)), some (.int l1)] []
  refine s_iload_n hX dX9_runPlanned_0 rfl ?_
  rcases bnT_e he h with ⟨r1, σ2, hc, h⟩ | ⟨r1, hc⟩
  · refine s_callSV _ hX (cX9_requireLimit_ok (sl X)  hc) ms_RX9_282 (fun _ => rfl) (by decide) (Nat.le_of_ble_eq_true rfl) hcs dX9_runPlanned_1 rfl ?_
    refine s_aload_n hX dX9_runPlanned_4 rfl ?_
    rcases bnT_e he h with ⟨r3, σ4, hc, h⟩ | ⟨r3, hc⟩
    · refine s_callVV _ hX (cX9_requirePlan_ok (sl X)  hc) SH_0 mv_RX9_234_8 (fun _ => rfl) (by decide) (Nat.le_of_ble_eq_true rfl) hcs dX9_runPlanned_5 rfl ?_
      refine s_aload_n hX dX9_runPlanned_8 rfl ?_
      refine s_aload_n hX dX9_runPlanned_9 rfl ?_
      refine s_getR (r := 107) hX fo_RX9_56_8 SH_0 rfl dX9_runPlanned_10 ?_
      refine s_iload_n hX dX9_runPlanned_13 rfl ?_
      rcases bnT_e he h with ⟨r5, σ6, hc, h⟩ | ⟨r5, hc⟩
      · refine s_callVI _ hX (cX9_resultOf_107_ok (sl X)  hc) SH_0 mv_RX9_285_8 (fun _ => rfl) (by decide) (Nat.le_of_ble_eq_true rfl) hcs dX9_runPlanned_14 rfl ?_
        exact absurd (rt3 h).1 he
      · exact s_callVTI _ hX (cX9_resultOf_107_th (sl X) hlX  he hc) SH_0 rfl mt_RX9_285 (fun _ => rfl) (by decide) (Nat.le_of_ble_eq_true rfl) hct dX9_runPlanned_14 rfl hpr
    · exact s_callVTV _ hX (cX9_requirePlan_th (sl X) hlX  he hc) SH_0 rfl mt_RX9_234 (fun _ => rfl) (by decide) (Nat.le_of_ble_eq_true rfl) hct dX9_runPlanned_5 rfl hpr
  · exact s_callSTV _ hX (cX9_requireLimit_th (sl X) hlX  he hc) mt_RX9_282 (fun _ => rfl) (by decide) (Nat.le_of_ble_eq_true rfl) hct dX9_runPlanned_1 rfl hpr
def fX9_executed (σ : Mm) (l1 : Int32) : Option Rx :=
  if l1 < 0 then
  some (1, 0, σ)
else
  if l1 < 4 then
  gd l1 4 <|
  some (0, σ 121 l1.toNatClampNeg, σ)
else
  some (1, 0, σ)
set_option maxHeartbeats 4000000 in
theorem cX9_executed_ok (l : Launch) {σ : Mm} {l1 : Int32} {r : Int32} {σ' : Mm}  (h : fX9_executed σ l1 = some (0, r, σ')) : cI l yX9_executed cX9_executed 2 .int 8 120 (fun ad => [.ref (ad 0), .int l1]) σ r σ' := by
  refine c_enterI (fun ad => [some (.ref (ad 0)), some (.int l1)]) (by decide) (fun ad => ⟨by simp [Value.category], Nat.le_of_ble_eq_true rfl⟩) (fun ad => ⟨0, rfl⟩) ?_
  intro X _ hX hret
  have hcs : ((0 : Nat), (0 : Nat)).1 ≤ (sR X).cells ∧ ((0 : Nat), (0 : Nat)).2 ≤ (sR X).slots := ⟨Nat.zero_le _, Nat.zero_le _⟩
  generalize hcs0 : ((0 : Nat), (0 : Nat)) = cs at hcs hret ⊢
  unfold fX9_executed at h
  show sW X 2 cs σ 0 [some (.ref (sad X 0)), some (.int l1)] []
  refine s_iload_n hX dX9_executed_0 rfl ?_
  refine s_if_lt (tgt := 13) hX dX9_executed_1 (by decide) (fun c3 => ?_) (fun c3 => ?_)
  · replace h := (if_pos c3).symm.trans h
    exact absurd (rt3 h).1 (by decide)
  · replace h := (if_neg c3).symm.trans h
    refine s_iload_n hX dX9_executed_4 rfl ?_
    refine s_aload_n hX dX9_executed_5 rfl ?_
    refine s_getR (r := 121) hX fo_RX9_70_8 SH_0 rfl dX9_executed_6 ?_
    refine s_alen 4 hX SH_121 (by decide) (by decide) dX9_executed_9 ?_
    refine s_ic_lt (tgt := 24) hX dX9_executed_10 (by decide) (fun c2 => ?_) (fun c2 => ?_)
    · replace h := (if_pos c2).symm.trans h
      refine s_aload_n hX dX9_executed_24 rfl ?_
      refine s_getR (r := 121) hX fo_RX9_70_8 SH_0 rfl dX9_executed_25 ?_
      refine s_iload_n hX dX9_executed_28 rfl ?_
      obtain ⟨c1, h⟩ := gd_some h
      refine s_iald hX SH_121 c1 dX9_executed_29 ?_
      obtain ⟨-, rfl, rfl⟩ := rt3 h
      exact hret _ _ (nzi _) dX9_executed_30
    · replace h := (if_neg c2).symm.trans h
      exact absurd (rt3 h).1 (by decide)
set_option maxHeartbeats 4000000 in
theorem cX9_executed_th (l : Launch) (hl : l.stackTraces = false) {σ : Mm} {l1 : Int32} {e : Nat} {r : Int32} {σ' : Mm}  (he : e ≠ 0) (h : fX9_executed σ l1 = some (e, r, σ')) : cTI l yX9_executed cX9_executed 2 .int 8 120 (fun ad => [.ref (ad 0), .int l1]) σ e σ' := by
  refine c_enterTI (fun ad => [some (.ref (ad 0)), some (.int l1)]) hl (by decide) rfl (by decide) (by decide) (fun ad => ⟨by simp [Value.category], Nat.le_of_ble_eq_true rfl⟩) (fun ad => ⟨0, rfl⟩) ?_
  intro X hsl hX hct hthr hpr
  have hlX : (sl X).stackTraces = false := by rw [hsl]; exact hl
  have hcs : ((0 : Nat), (0 : Nat)).1 ≤ (sR X).cells ∧ ((0 : Nat), (0 : Nat)).2 ≤ (sR X).slots := ⟨Nat.zero_le _, Nat.zero_le _⟩
  replace hct : ((0 : Nat), (0 : Nat)).1 + 1 ≤ (sR X).cells ∧ ((0 : Nat), (0 : Nat)).2 + 6 ≤ (sR X).slots := hct
  generalize hcs0 : ((0 : Nat), (0 : Nat)) = cs at hcs hct hthr hpr ⊢
  unfold fX9_executed at h
  show sW X 2 cs σ 0 [some (.ref (sad X 0)), some (.int l1)] []
  refine s_iload_n hX dX9_executed_0 rfl ?_
  refine s_if_lt (tgt := 13) hX dX9_executed_1 (by decide) (fun c3 => ?_) (fun c3 => ?_)
  · replace h := (if_pos c3).symm.trans h
    obtain ⟨rfl, -, rfl⟩ := rt3 h
    exact hthr _ _ _ 76 289 80 _ xw_1_76_80 (List.mem_of_getElem? (i := 21) rfl) dX9_executed_13 dX9_executed_16 (Or.inr ⟨by decide, dX9_executed_17, dX9_executed_20, dX9_executed_23⟩) (Nat.le_of_ble_eq_true rfl)
  · replace h := (if_neg c3).symm.trans h
    refine s_iload_n hX dX9_executed_4 rfl ?_
    refine s_aload_n hX dX9_executed_5 rfl ?_
    refine s_getR (r := 121) hX fo_RX9_70_8 SH_0 rfl dX9_executed_6 ?_
    refine s_alen 4 hX SH_121 (by decide) (by decide) dX9_executed_9 ?_
    refine s_ic_lt (tgt := 24) hX dX9_executed_10 (by decide) (fun c2 => ?_) (fun c2 => ?_)
    · replace h := (if_pos c2).symm.trans h
      refine s_aload_n hX dX9_executed_24 rfl ?_
      refine s_getR (r := 121) hX fo_RX9_70_8 SH_0 rfl dX9_executed_25 ?_
      refine s_iload_n hX dX9_executed_28 rfl ?_
      obtain ⟨c1, h⟩ := gd_some h
      refine s_iald hX SH_121 c1 dX9_executed_29 ?_
      exact absurd (rt3 h).1 he
    · replace h := (if_neg c2).symm.trans h
      obtain ⟨rfl, -, rfl⟩ := rt3 h
      exact hthr _ _ _ 76 289 80 _ xw_1_76_80 (List.mem_of_getElem? (i := 21) rfl) dX9_executed_13 dX9_executed_16 (Or.inr ⟨by decide, dX9_executed_17, dX9_executed_20, dX9_executed_23⟩) (Nat.le_of_ble_eq_true rfl)
def fX9_visits (σ : Mm) (l1 : Int32) : Option Rx :=
  bnT (fX9_requireBlock σ l1) fun r1 σ2 =>
  gd l1 8 <|
  some (0, σ2 122 l1.toNatClampNeg, σ2)
set_option maxHeartbeats 4000000 in
theorem cX9_visits_ok (l : Launch) {σ : Mm} {l1 : Int32} {r : Int32} {σ' : Mm}  (h : fX9_visits σ l1 = some (0, r, σ')) : cI l yX9_visits cX9_visits 2 .int 9 141 (fun ad => [.ref (ad 0), .int l1]) σ r σ' := by
  refine c_enterI (fun ad => [some (.ref (ad 0)), some (.int l1)]) (by decide) (fun ad => ⟨by simp [Value.category], Nat.le_of_ble_eq_true rfl⟩) (fun ad => ⟨0, rfl⟩) ?_
  intro X _ hX hret
  have hcs : ((0 : Nat), (0 : Nat)).1 ≤ (sR X).cells ∧ ((0 : Nat), (0 : Nat)).2 ≤ (sR X).slots := ⟨Nat.zero_le _, Nat.zero_le _⟩
  generalize hcs0 : ((0 : Nat), (0 : Nat)) = cs at hcs hret ⊢
  unfold fX9_visits at h
  show sW X 2 cs σ 0 [some (.ref (sad X 0)), some (.int l1)] []
  refine s_aload_n hX dX9_visits_0 rfl ?_
  refine s_iload_n hX dX9_visits_1 rfl ?_
  obtain ⟨r1, σ2, hc, h⟩ := bnT_0 h
  refine s_callVV _ hX (cX9_requireBlock_ok (sl X)  hc) SH_0 mv_RX9_94_8 (fun _ => rfl) (by decide) (Nat.le_of_ble_eq_true rfl) hcs dX9_visits_2 rfl ?_
  refine s_aload_n hX dX9_visits_5 rfl ?_
  refine s_getR (r := 122) hX fo_RX9_73_8 SH_0 rfl dX9_visits_6 ?_
  refine s_iload_n hX dX9_visits_9 rfl ?_
  obtain ⟨c3, h⟩ := gd_some h
  refine s_iald hX SH_122 c3 dX9_visits_10 ?_
  obtain ⟨-, rfl, rfl⟩ := rt3 h
  exact hret _ _ (nzi _) dX9_visits_11
set_option maxHeartbeats 4000000 in
theorem cX9_visits_th (l : Launch) (hl : l.stackTraces = false) {σ : Mm} {l1 : Int32} {e : Nat} {r : Int32} {σ' : Mm}  (he : e ≠ 0) (h : fX9_visits σ l1 = some (e, r, σ')) : cTI l yX9_visits cX9_visits 2 .int 9 141 (fun ad => [.ref (ad 0), .int l1]) σ e σ' := by
  refine c_enterTI (fun ad => [some (.ref (ad 0)), some (.int l1)]) hl (by decide) rfl (by decide) (by decide) (fun ad => ⟨by simp [Value.category], Nat.le_of_ble_eq_true rfl⟩) (fun ad => ⟨0, rfl⟩) ?_
  intro X hsl hX hct hthr hpr
  have hlX : (sl X).stackTraces = false := by rw [hsl]; exact hl
  have hcs : ((0 : Nat), (0 : Nat)).1 ≤ (sR X).cells ∧ ((0 : Nat), (0 : Nat)).2 ≤ (sR X).slots := ⟨Nat.zero_le _, Nat.zero_le _⟩
  replace hct : ((0 : Nat), (0 : Nat)).1 + 1 ≤ (sR X).cells ∧ ((0 : Nat), (0 : Nat)).2 + 6 ≤ (sR X).slots := hct
  generalize hcs0 : ((0 : Nat), (0 : Nat)) = cs at hcs hct hthr hpr ⊢
  unfold fX9_visits at h
  show sW X 2 cs σ 0 [some (.ref (sad X 0)), some (.int l1)] []
  refine s_aload_n hX dX9_visits_0 rfl ?_
  refine s_iload_n hX dX9_visits_1 rfl ?_
  rcases bnT_e he h with ⟨r1, σ2, hc, h⟩ | ⟨r1, hc⟩
  · refine s_callVV _ hX (cX9_requireBlock_ok (sl X)  hc) SH_0 mv_RX9_94_8 (fun _ => rfl) (by decide) (Nat.le_of_ble_eq_true rfl) hcs dX9_visits_2 rfl ?_
    refine s_aload_n hX dX9_visits_5 rfl ?_
    refine s_getR (r := 122) hX fo_RX9_73_8 SH_0 rfl dX9_visits_6 ?_
    refine s_iload_n hX dX9_visits_9 rfl ?_
    obtain ⟨c3, h⟩ := gd_some h
    refine s_iald hX SH_122 c3 dX9_visits_10 ?_
    exact absurd (rt3 h).1 he
  · exact s_callVTV _ hX (cX9_requireBlock_th (sl X) hlX  he hc) SH_0 rfl mt_RX9_94 (fun _ => rfl) (by decide) (Nat.le_of_ble_eq_true rfl) hct dX9_visits_2 rfl hpr
def fX9_feed (σ : Mm) (l1 : Int32) : Option Rx :=
  if (σ 113 2) < 80 then
  gd (σ 113 2) 80 <|
  bd (upm σ 114 (upd (σ 114) (σ 113 2).toNatClampNeg (nrc l1))) fun σ2 =>
  bd (upm σ2 113 (upd (σ2 113) 2 ((σ2 113 2) + 1))) fun σ3 =>
  some (0, σ3 113 2, σ3)
else
  some (3, 0, σ)
set_option maxHeartbeats 4000000 in
theorem cX9_feed_ok (l : Launch) {σ : Mm} {l1 : Int32} {r : Int32} {σ' : Mm}  (h : fX9_feed σ l1 = some (0, r, σ')) : cI l yX9_feed cX9_feed 2 .int 8 120 (fun ad => [.ref (ad 0), .int l1]) σ r σ' := by
  refine c_enterI (fun ad => [some (.ref (ad 0)), some (.int l1)]) (by decide) (fun ad => ⟨by simp [Value.category], Nat.le_of_ble_eq_true rfl⟩) (fun ad => ⟨0, rfl⟩) ?_
  intro X _ hX hret
  have hcs : ((0 : Nat), (0 : Nat)).1 ≤ (sR X).cells ∧ ((0 : Nat), (0 : Nat)).2 ≤ (sR X).slots := ⟨Nat.zero_le _, Nat.zero_le _⟩
  generalize hcs0 : ((0 : Nat), (0 : Nat)) = cs at hcs hret ⊢
  unfold fX9_feed at h
  show sW X 2 cs σ 0 [some (.ref (sad X 0)), some (.int l1)] []
  refine s_aload_n hX dX9_feed_0 rfl ?_
  refine s_getR (r := 113) hX fo_RX9_62_8 SH_0 rfl dX9_feed_1 ?_
  refine s_getI hX fo_RX9_291_7 SH_113 rfl dX9_feed_4 ?_
  refine s_bipush 80 hX dX9_feed_7 (by decide) ?_
  refine s_ic_lt (tgt := 23) hX dX9_feed_9 (by decide) (fun c4 => ?_) (fun c4 => ?_)
  · replace h := (if_pos c4).symm.trans h
    refine s_aload_n hX dX9_feed_23 rfl ?_
    refine s_getR (r := 113) hX fo_RX9_62_8 SH_0 rfl dX9_feed_24 ?_
    refine s_getR (r := 114) hX fo_RX9_296_7 SH_113 rfl dX9_feed_27 ?_
    refine s_aload_n hX dX9_feed_30 rfl ?_
    refine s_getR (r := 113) hX fo_RX9_62_8 SH_0 rfl dX9_feed_31 ?_
    refine s_getI hX fo_RX9_291_7 SH_113 rfl dX9_feed_34 ?_
    refine s_iload_n hX dX9_feed_37 rfl ?_
    obtain ⟨c1, h⟩ := gd_some h
    obtain ⟨σ2, eσ2, h⟩ := bd_some h
    refine s_cast hX SH_114 c1 dX9_feed_38 ?_
    refine s_mem σ2 eσ2 ?_
    refine s_aload_n hX dX9_feed_39 rfl ?_
    refine s_getR (r := 113) hX fo_RX9_62_8 SH_0 rfl dX9_feed_40 ?_
    refine s_dup hX dX9_feed_43 rfl ?_
    refine s_getI hX fo_RX9_291_7 SH_113 rfl dX9_feed_44 ?_
    refine s_iconst 1 hX dX9_feed_47 (by decide) ?_
    refine s_iadd hX dX9_feed_48 ?_
    obtain ⟨σ3, eσ3, h⟩ := bd_some h
    refine s_putI hX fo_RX9_291_7 SH_113 rfl dX9_feed_49 ?_
    refine s_mem σ3 eσ3 ?_
    refine s_aload_n hX dX9_feed_52 rfl ?_
    refine s_getR (r := 113) hX fo_RX9_62_8 SH_0 rfl dX9_feed_53 ?_
    refine s_getI hX fo_RX9_291_7 SH_113 rfl dX9_feed_56 ?_
    obtain ⟨-, rfl, rfl⟩ := rt3 h
    exact hret _ _ (nzi _) dX9_feed_59
  · replace h := (if_neg c4).symm.trans h
    exact absurd (rt3 h).1 (by decide)
set_option maxHeartbeats 4000000 in
theorem cX9_feed_th (l : Launch) (hl : l.stackTraces = false) {σ : Mm} {l1 : Int32} {e : Nat} {r : Int32} {σ' : Mm}  (he : e ≠ 0) (h : fX9_feed σ l1 = some (e, r, σ')) : cTI l yX9_feed cX9_feed 2 .int 8 120 (fun ad => [.ref (ad 0), .int l1]) σ e σ' := by
  refine c_enterTI (fun ad => [some (.ref (ad 0)), some (.int l1)]) hl (by decide) rfl (by decide) (by decide) (fun ad => ⟨by simp [Value.category], Nat.le_of_ble_eq_true rfl⟩) (fun ad => ⟨0, rfl⟩) ?_
  intro X hsl hX hct hthr hpr
  have hlX : (sl X).stackTraces = false := by rw [hsl]; exact hl
  have hcs : ((0 : Nat), (0 : Nat)).1 ≤ (sR X).cells ∧ ((0 : Nat), (0 : Nat)).2 ≤ (sR X).slots := ⟨Nat.zero_le _, Nat.zero_le _⟩
  replace hct : ((0 : Nat), (0 : Nat)).1 + 1 ≤ (sR X).cells ∧ ((0 : Nat), (0 : Nat)).2 + 6 ≤ (sR X).slots := hct
  generalize hcs0 : ((0 : Nat), (0 : Nat)) = cs at hcs hct hthr hpr ⊢
  unfold fX9_feed at h
  show sW X 2 cs σ 0 [some (.ref (sad X 0)), some (.int l1)] []
  refine s_aload_n hX dX9_feed_0 rfl ?_
  refine s_getR (r := 113) hX fo_RX9_62_8 SH_0 rfl dX9_feed_1 ?_
  refine s_getI hX fo_RX9_291_7 SH_113 rfl dX9_feed_4 ?_
  refine s_bipush 80 hX dX9_feed_7 (by decide) ?_
  refine s_ic_lt (tgt := 23) hX dX9_feed_9 (by decide) (fun c4 => ?_) (fun c4 => ?_)
  · replace h := (if_pos c4).symm.trans h
    refine s_aload_n hX dX9_feed_23 rfl ?_
    refine s_getR (r := 113) hX fo_RX9_62_8 SH_0 rfl dX9_feed_24 ?_
    refine s_getR (r := 114) hX fo_RX9_296_7 SH_113 rfl dX9_feed_27 ?_
    refine s_aload_n hX dX9_feed_30 rfl ?_
    refine s_getR (r := 113) hX fo_RX9_62_8 SH_0 rfl dX9_feed_31 ?_
    refine s_getI hX fo_RX9_291_7 SH_113 rfl dX9_feed_34 ?_
    refine s_iload_n hX dX9_feed_37 rfl ?_
    obtain ⟨c1, h⟩ := gd_some h
    obtain ⟨σ2, eσ2, h⟩ := bd_some h
    refine s_cast hX SH_114 c1 dX9_feed_38 ?_
    refine s_mem σ2 eσ2 ?_
    refine s_aload_n hX dX9_feed_39 rfl ?_
    refine s_getR (r := 113) hX fo_RX9_62_8 SH_0 rfl dX9_feed_40 ?_
    refine s_dup hX dX9_feed_43 rfl ?_
    refine s_getI hX fo_RX9_291_7 SH_113 rfl dX9_feed_44 ?_
    refine s_iconst 1 hX dX9_feed_47 (by decide) ?_
    refine s_iadd hX dX9_feed_48 ?_
    obtain ⟨σ3, eσ3, h⟩ := bd_some h
    refine s_putI hX fo_RX9_291_7 SH_113 rfl dX9_feed_49 ?_
    refine s_mem σ3 eσ3 ?_
    refine s_aload_n hX dX9_feed_52 rfl ?_
    refine s_getR (r := 113) hX fo_RX9_62_8 SH_0 rfl dX9_feed_53 ?_
    refine s_getI hX fo_RX9_291_7 SH_113 rfl dX9_feed_56 ?_
    exact absurd (rt3 h).1 he
  · replace h := (if_neg c4).symm.trans h
    obtain ⟨rfl, -, rfl⟩ := rt3 h
    exact hthr _ _ _ 110 294 114 _ xw_3_110_114 (List.mem_of_getElem? (i := 22) rfl) dX9_feed_12 dX9_feed_15 (Or.inr ⟨by decide, dX9_feed_16, dX9_feed_19, dX9_feed_22⟩) (Nat.le_of_ble_eq_true rfl)
def fX9_restoreSnapshot (σ : Mm) : Option Rx :=
  if (σ 0 11) = 0 then
  some (3, 0, σ)
else
  (fX7_copy_p_44 σ).bind fun σ1 =>
  (fX9_programChanged σ1).bind fun σ2 =>
  some (0, σ2 1 2, σ2)
set_option maxHeartbeats 4000000 in
theorem cX9_restoreSnapshot_ok (l : Launch) {σ : Mm} {r : Int32} {σ' : Mm}  (h : fX9_restoreSnapshot σ = some (0, r, σ')) : cI l yX9_restoreSnapshot cX9_restoreSnapshot 1 .int 8 120 (fun ad => [.ref (ad 0)]) σ r σ' := by
  refine c_enterI (fun ad => [some (.ref (ad 0))]) (by decide) (fun ad => ⟨by simp [Value.category], Nat.le_of_ble_eq_true rfl⟩) (fun ad => ⟨0, rfl⟩) ?_
  intro X _ hX hret
  have hcs : ((0 : Nat), (0 : Nat)).1 ≤ (sR X).cells ∧ ((0 : Nat), (0 : Nat)).2 ≤ (sR X).slots := ⟨Nat.zero_le _, Nat.zero_le _⟩
  generalize hcs0 : ((0 : Nat), (0 : Nat)) = cs at hcs hret ⊢
  unfold fX9_restoreSnapshot at h
  show sW X 1 cs σ 0 [some (.ref (sad X 0))] []
  refine s_aload_n hX dX9_restoreSnapshot_0 rfl ?_
  refine s_getI hX fo_RX9_317_8 SH_0 rfl dX9_restoreSnapshot_1 ?_
  refine s_if_ne (tgt := 18) hX dX9_restoreSnapshot_4 (by decide) (fun c3 => ?_) (fun c3 => ?_)
  · replace h := (if_neg c3).symm.trans h
    refine s_aload_n hX dX9_restoreSnapshot_18 rfl ?_
    refine s_getR (r := 1) hX fo_RX9_25_8 SH_0 rfl dX9_restoreSnapshot_19 ?_
    refine s_aload_n hX dX9_restoreSnapshot_22 rfl ?_
    refine s_getR (r := 44) hX fo_RX9_29_8 SH_0 rfl dX9_restoreSnapshot_23 ?_
    obtain ⟨σ1, hc, h⟩ := bn_some h
    refine s_callVV _ hX (cX7_copy_p_44_ok (sl X)  hc) SH_1 mv_RX9_314_6 (fun _ => rfl) (by decide) (Nat.le_of_ble_eq_true rfl) hcs dX9_restoreSnapshot_26 rfl ?_
    refine s_aload_n hX dX9_restoreSnapshot_29 rfl ?_
    obtain ⟨σ2, hc, h⟩ := bn_some h
    refine s_callVV _ hX (cX9_programChanged_ok (sl X)  hc) SH_0 mv_RX9_91_8 (fun _ => rfl) (by decide) (Nat.le_of_ble_eq_true rfl) hcs dX9_restoreSnapshot_30 rfl ?_
    refine s_aload_n hX dX9_restoreSnapshot_33 rfl ?_
    refine s_getR (r := 1) hX fo_RX9_25_8 SH_0 rfl dX9_restoreSnapshot_34 ?_
    refine s_getI hX fo_RX9_83_6 SH_1 rfl dX9_restoreSnapshot_37 ?_
    obtain ⟨-, rfl, rfl⟩ := rt3 h
    exact hret _ _ (nzi _) dX9_restoreSnapshot_40
  · replace h := (if_pos c3).symm.trans h
    exact absurd (rt3 h).1 (by decide)
set_option maxHeartbeats 4000000 in
theorem cX9_restoreSnapshot_th (l : Launch) (hl : l.stackTraces = false) {σ : Mm} {e : Nat} {r : Int32} {σ' : Mm}  (he : e ≠ 0) (h : fX9_restoreSnapshot σ = some (e, r, σ')) : cTI l yX9_restoreSnapshot cX9_restoreSnapshot 1 .int 8 120 (fun ad => [.ref (ad 0)]) σ e σ' := by
  refine c_enterTI (fun ad => [some (.ref (ad 0))]) hl (by decide) rfl (by decide) (by decide) (fun ad => ⟨by simp [Value.category], Nat.le_of_ble_eq_true rfl⟩) (fun ad => ⟨0, rfl⟩) ?_
  intro X hsl hX hct hthr hpr
  have hlX : (sl X).stackTraces = false := by rw [hsl]; exact hl
  have hcs : ((0 : Nat), (0 : Nat)).1 ≤ (sR X).cells ∧ ((0 : Nat), (0 : Nat)).2 ≤ (sR X).slots := ⟨Nat.zero_le _, Nat.zero_le _⟩
  replace hct : ((0 : Nat), (0 : Nat)).1 + 1 ≤ (sR X).cells ∧ ((0 : Nat), (0 : Nat)).2 + 6 ≤ (sR X).slots := hct
  generalize hcs0 : ((0 : Nat), (0 : Nat)) = cs at hcs hct hthr hpr ⊢
  unfold fX9_restoreSnapshot at h
  show sW X 1 cs σ 0 [some (.ref (sad X 0))] []
  refine s_aload_n hX dX9_restoreSnapshot_0 rfl ?_
  refine s_getI hX fo_RX9_317_8 SH_0 rfl dX9_restoreSnapshot_1 ?_
  refine s_if_ne (tgt := 18) hX dX9_restoreSnapshot_4 (by decide) (fun c3 => ?_) (fun c3 => ?_)
  · replace h := (if_neg c3).symm.trans h
    refine s_aload_n hX dX9_restoreSnapshot_18 rfl ?_
    refine s_getR (r := 1) hX fo_RX9_25_8 SH_0 rfl dX9_restoreSnapshot_19 ?_
    refine s_aload_n hX dX9_restoreSnapshot_22 rfl ?_
    refine s_getR (r := 44) hX fo_RX9_29_8 SH_0 rfl dX9_restoreSnapshot_23 ?_
    obtain ⟨σ1, hc, h⟩ := bn_some h
    refine s_callVV _ hX (cX7_copy_p_44_ok (sl X)  hc) SH_1 mv_RX9_314_6 (fun _ => rfl) (by decide) (Nat.le_of_ble_eq_true rfl) hcs dX9_restoreSnapshot_26 rfl ?_
    refine s_aload_n hX dX9_restoreSnapshot_29 rfl ?_
    obtain ⟨σ2, hc, h⟩ := bn_some h
    refine s_callVV _ hX (cX9_programChanged_ok (sl X)  hc) SH_0 mv_RX9_91_8 (fun _ => rfl) (by decide) (Nat.le_of_ble_eq_true rfl) hcs dX9_restoreSnapshot_30 rfl ?_
    refine s_aload_n hX dX9_restoreSnapshot_33 rfl ?_
    refine s_getR (r := 1) hX fo_RX9_25_8 SH_0 rfl dX9_restoreSnapshot_34 ?_
    refine s_getI hX fo_RX9_83_6 SH_1 rfl dX9_restoreSnapshot_37 ?_
    exact absurd (rt3 h).1 he
  · replace h := (if_pos c3).symm.trans h
    obtain ⟨rfl, -, rfl⟩ := rt3 h
    exact hthr _ _ _ 110 320 114 _ xw_3_110_114 (List.mem_of_getElem? (i := 23) rfl) dX9_restoreSnapshot_7 dX9_restoreSnapshot_10 (Or.inr ⟨by decide, dX9_restoreSnapshot_11, dX9_restoreSnapshot_14, dX9_restoreSnapshot_17⟩) (Nat.le_of_ble_eq_true rfl)
