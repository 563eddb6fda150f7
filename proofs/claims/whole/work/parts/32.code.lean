def fX5_countAt (σ : Mm) (l1 : Int32) : Option Int32 :=
  (fX5_variablesAt σ l1).bind fun r1 =>
  (fJ6_bitCount_0f7a4 σ r1).bind fun r2 =>
  some r2
set_option maxHeartbeats 4000000 in
theorem cX5_countAt_ok (l : Launch) {σ : Mm} {l1 : Int32} {r : Int32}  (h : fX5_countAt σ l1 = some r) : cI l yX5_countAt cX5_countAt 2 .int 1 23 (fun ad => [.ref (ad 97), .int l1]) σ r σ := by
  refine c_enterI (fun ad => [some (.ref (ad 97)), some (.int l1)]) (by decide) (fun ad => ⟨by simp [Value.category], Nat.le_of_ble_eq_true rfl⟩) (fun ad => ⟨0, rfl⟩) ?_
  intro X _ hX hret
  have hcs : ((0 : Nat), (0 : Nat)).1 ≤ (sR X).cells ∧ ((0 : Nat), (0 : Nat)).2 ≤ (sR X).slots := ⟨Nat.zero_le _, Nat.zero_le _⟩
  generalize hcs0 : ((0 : Nat), (0 : Nat)) = cs at hcs hret ⊢
  unfold fX5_countAt at h
  show sW X 2 cs σ 0 [some (.ref (sad X 97)), some (.int l1)] []
  refine s_aload_n hX dX5_countAt_0 rfl ?_
  refine s_iload_n hX dX5_countAt_1 rfl ?_
  obtain ⟨r1, hc, h⟩ := bn_some h
  refine s_callVI _ hX (cX5_variablesAt_ok (sl X)  hc) SH_97 mv_RX5_53_4 (fun _ => rfl) (by decide) (Nat.le_of_ble_eq_true rfl) hcs dX5_countAt_2 rfl ?_
  obtain ⟨r2, hc, h⟩ := bn_some h
  refine s_callSI _ hX (cJ6_bitCount_0f7a4_ok (sl X)  hc) ms_RX5_106 (fun _ => rfl) (by decide) (Nat.le_of_ble_eq_true rfl) hcs dX5_countAt_5 rfl ?_
  obtain rfl := rt1 h
  exact hret _ _ (nzi _) dX5_countAt_8
def gX5_totalCost_8 (σ : Mm) (rec : Int32 × Int32 → Option (Int32)) (x1 : Int32) (x2 : Int32) : Option (Int32) :=
  if 12 ≤ x2 then
  some x1
else
  gd x2 12 <|
  if (σ 98 x2.toNatClampNeg) = 1 then
  (fX1_memoryCost σ x2).bind fun r8 =>
  bd (x1 + r8) fun v9 =>
  bd (x2 + 1) fun v10 =>
  rec (v9, v10)
else
  gd x2 12 <|
  if (σ 98 x2.toNatClampNeg) = 2 then
  (fX1_recomputingCost σ x2).bind fun r4 =>
  bd (x1 + r4) fun v5 =>
  bd (x2 + 1) fun v6 =>
  rec (v5, v6)
else
  bd (x2 + 1) fun v3 =>
  rec (x1, v3)
def qX5_totalCost_8 (σ : Mm) : Nat → Int32 × Int32 → Option (Int32) := lp (fun rec s => gX5_totalCost_8 σ rec s.1 s.2)
def fX5_totalCost (σ : Mm) : Option Int32 :=
  bd (-(σ 97 11)) fun v1 =>
  (qX5_totalCost_8 σ FU (v1, 0)).bind fun v2 =>
  some v2
set_option maxHeartbeats 4000000 in
theorem pX5_totalCost_8 {X : sT} {cs : Nat × Nat} (hX : sX X cX5_totalCost RX5 3 2 46) (hcs : cs.1 ≤ (sR X).cells ∧ cs.2 ≤ (sR X).slots) (σ : Mm)  : ∀ (n : Nat) (s : Int32 × Int32) (r : Int32), qX5_totalCost_8 σ n s = some r → sW X 3 cs σ 65 [none, some (.int r), none] [] → sW X 3 cs σ 8 [some (.ref (sad X 97)), some (.int s.1), some (.int s.2)] [] := by
  refine lp_ind (P := fun (s : Int32 × Int32) (r : Int32) => sW X 3 cs σ 65 [none, some (.int r), none] [] → sW X 3 cs σ 8 [some (.ref (sad X 97)), some (.int s.1), some (.int s.2)] []) ?_
  intro rec hrec s r h0 hk
  obtain ⟨x1, x2⟩ := s
  have h : gX5_totalCost_8 σ rec x1 x2 = some r := h0
  unfold gX5_totalCost_8 at h
  show sW X 3 cs σ 8 [some (.ref (sad X 97)), some (.int x1), some (.int x2)] []
  refine s_iload_n hX dX5_totalCost_8 rfl ?_
  refine s_bipush 12 hX dX5_totalCost_9 (by decide) ?_
  refine s_ic_ge (tgt := 65) hX dX5_totalCost_11 (by decide) (fun c12 => ?_) (fun c12 => ?_)
  · replace h := (if_pos c12).symm.trans h
    obtain rfl := rt1 h
    refine s_mask [false, true, false] ?_
    exact hk
  · replace h := (if_neg c12).symm.trans h
    refine s_aload_n hX dX5_totalCost_14 rfl ?_
    refine s_getR (r := 98) hX fo_RX5_9_4 SH_97 rfl dX5_totalCost_15 ?_
    refine s_iload_n hX dX5_totalCost_18 rfl ?_
    obtain ⟨c1, h⟩ := gd_some h
    refine s_iald hX SH_98 c1 dX5_totalCost_19 ?_
    refine s_iconst 1 hX dX5_totalCost_20 (by decide) ?_
    refine s_ic_ne (tgt := 38) hX dX5_totalCost_21 (by decide) (fun c11 => ?_) (fun c11 => ?_)
    · replace h := (if_neg c11).symm.trans h
      refine s_aload_n hX dX5_totalCost_38 rfl ?_
      refine s_getR (r := 98) hX fo_RX5_9_4 SH_97 rfl dX5_totalCost_39 ?_
      refine s_iload_n hX dX5_totalCost_42 rfl ?_
      obtain ⟨c2, h⟩ := gd_some h
      refine s_iald hX SH_98 c2 dX5_totalCost_43 ?_
      refine s_iconst 2 hX dX5_totalCost_44 (by decide) ?_
      refine s_ic_ne (tgt := 59) hX dX5_totalCost_45 (by decide) (fun c7 => ?_) (fun c7 => ?_)
      · replace h := (if_neg c7).symm.trans h
        obtain ⟨v3, ev3, h⟩ := bd_some h
        refine s_iinc v3 hX dX5_totalCost_59 rfl (by rw [ev3]; rfl) (by decide) ?_
        refine s_goto (tgt := 8) hX dX5_totalCost_62 (by decide) ?_
        refine s_mask [true, true, true] ?_
        exact hrec _ _ h hk
      · replace h := (if_pos c7).symm.trans h
        refine s_iload_n hX dX5_totalCost_48 rfl ?_
        refine s_aload_n hX dX5_totalCost_49 rfl ?_
        refine s_getR (r := 87) hX fo_RX5_34_4 SH_97 rfl dX5_totalCost_50 ?_
        refine s_iload_n hX dX5_totalCost_53 rfl ?_
        obtain ⟨r4, hc, h⟩ := bn_some h
        refine s_callVI _ hX (cX1_recomputingCost_ok (sl X)  hc) SH_87 mv_RX5_100_1 (fun _ => rfl) (by decide) (Nat.le_of_ble_eq_true rfl) hcs dX5_totalCost_54 rfl ?_
        refine s_iadd hX dX5_totalCost_57 ?_
        obtain ⟨v5, ev5, h⟩ := bd_some h
        refine s_topi v5 ev5 ?_
        refine s_istore_n hX dX5_totalCost_58 (by decide) ?_
        obtain ⟨v6, ev6, h⟩ := bd_some h
        refine s_iinc v6 hX dX5_totalCost_59 rfl (by rw [ev6]; rfl) (by decide) ?_
        refine s_goto (tgt := 8) hX dX5_totalCost_62 (by decide) ?_
        refine s_mask [true, true, true] ?_
        exact hrec _ _ h hk
    · replace h := (if_pos c11).symm.trans h
      refine s_iload_n hX dX5_totalCost_24 rfl ?_
      refine s_aload_n hX dX5_totalCost_25 rfl ?_
      refine s_getR (r := 87) hX fo_RX5_34_4 SH_97 rfl dX5_totalCost_26 ?_
      refine s_iload_n hX dX5_totalCost_29 rfl ?_
      obtain ⟨r8, hc, h⟩ := bn_some h
      refine s_callVI _ hX (cX1_memoryCost_ok (sl X)  hc) SH_87 mv_RX5_103_1 (fun _ => rfl) (by decide) (Nat.le_of_ble_eq_true rfl) hcs dX5_totalCost_30 rfl ?_
      refine s_iadd hX dX5_totalCost_33 ?_
      obtain ⟨v9, ev9, h⟩ := bd_some h
      refine s_topi v9 ev9 ?_
      refine s_istore_n hX dX5_totalCost_34 (by decide) ?_
      refine s_goto (tgt := 59) hX dX5_totalCost_35 (by decide) ?_
      obtain ⟨v10, ev10, h⟩ := bd_some h
      refine s_iinc v10 hX dX5_totalCost_59 rfl (by rw [ev10]; rfl) (by decide) ?_
      refine s_goto (tgt := 8) hX dX5_totalCost_62 (by decide) ?_
      refine s_mask [true, true, true] ?_
      exact hrec _ _ h hk
set_option maxHeartbeats 4000000 in
theorem cX5_totalCost_ok (l : Launch) {σ : Mm} {r : Int32}  (h : fX5_totalCost σ = some r) : cI l yX5_totalCost cX5_totalCost 3 .int 2 46 (fun ad => [.ref (ad 97)]) σ r σ := by
  refine c_enterI (fun ad => [some (.ref (ad 97)), none, none]) (by decide) (fun ad => ⟨by simp [Value.category], Nat.le_of_ble_eq_true rfl⟩) (fun ad => ⟨2, rfl⟩) ?_
  intro X _ hX hret
  have hcs : ((0 : Nat), (0 : Nat)).1 ≤ (sR X).cells ∧ ((0 : Nat), (0 : Nat)).2 ≤ (sR X).slots := ⟨Nat.zero_le _, Nat.zero_le _⟩
  generalize hcs0 : ((0 : Nat), (0 : Nat)) = cs at hcs hret ⊢
  unfold fX5_totalCost at h
  show sW X 3 cs σ 0 [some (.ref (sad X 97)), none, none] []
  refine s_aload_n hX dX5_totalCost_0 rfl ?_
  refine s_getI hX fo_RX5_111_4 SH_97 rfl dX5_totalCost_1 ?_
  refine s_ineg hX dX5_totalCost_4 ?_
  obtain ⟨v1, ev1, h⟩ := bd_some h
  refine s_topi v1 ev1 ?_
  refine s_istore_n hX dX5_totalCost_5 (by decide) ?_
  refine s_iconst 0 hX dX5_totalCost_6 (by decide) ?_
  refine s_istore_n hX dX5_totalCost_7 (by decide) ?_
  obtain ⟨v2, hc, h⟩ := bn_some h
  refine s_mask [true, true, true] ?_
  refine pX5_totalCost_8 hX hcs _ _ _ _ hc ?_
  refine s_iload_n hX dX5_totalCost_65 rfl ?_
  obtain rfl := rt1 h
  exact hret _ _ (nzi _) dX5_totalCost_66
def fX5_slotCount (σ : Mm) : Option Int32 :=
  (fX9_numbersInUse σ 100 12).bind fun r1 =>
  some r1
set_option maxHeartbeats 4000000 in
theorem cX5_slotCount_ok (l : Launch) {σ : Mm} {r : Int32}  (h : fX5_slotCount σ = some r) : cI l yX5_slotCount cX5_slotCount 1 .int 2 62 (fun ad => [.ref (ad 97)]) σ r σ := by
  refine c_enterI (fun ad => [some (.ref (ad 97))]) (by decide) (fun ad => ⟨by simp [Value.category], Nat.le_of_ble_eq_true rfl⟩) (fun ad => ⟨0, rfl⟩) ?_
  intro X _ hX hret
  have hcs : ((0 : Nat), (0 : Nat)).1 ≤ (sR X).cells ∧ ((0 : Nat), (0 : Nat)).2 ≤ (sR X).slots := ⟨Nat.zero_le _, Nat.zero_le _⟩
  generalize hcs0 : ((0 : Nat), (0 : Nat)) = cs at hcs hret ⊢
  unfold fX5_slotCount at h
  show sW X 1 cs σ 0 [some (.ref (sad X 97))] []
  refine s_aload_n hX dX5_slotCount_0 rfl ?_
  refine s_getR (r := 100) hX fo_RX5_18_4 SH_97 rfl dX5_slotCount_1 ?_
  obtain ⟨r1, hc, h⟩ := bn_some h
  refine s_callSI _ hX (cX9_numbersInUse_ok (sl X) SH_100 hc) ms_RX5_66 (fun _ => rfl) (by decide) (Nat.le_of_ble_eq_true rfl) hcs dX5_slotCount_4 rfl ?_
  obtain rfl := rt1 h
  exact hret _ _ (nzi _) dX5_slotCount_7
def fX9_enough (σ : Mm) : Option (Int32 × Mm) :=
  (fX9_analyse σ).bind fun σ1 =>
  (fX1_usedVariables σ1).bind fun r2 =>
  (fX9_colourGreedily σ1 r2 91 12 120 12).bind fun σ3 =>
  (fX9_numbersInUse σ3 120 12).bind fun r4 =>
  some (mx 1 r4, σ3)
set_option maxHeartbeats 4000000 in
theorem cX9_enough_ok (l : Launch) {σ : Mm} {r : Int32} {σ' : Mm}  (h : fX9_enough σ = some (r, σ')) : cI l yX9_enough cX9_enough 1 .int 5 112 (fun ad => [.ref (ad 0)]) σ r σ' := by
  refine c_enterI (fun ad => [some (.ref (ad 0))]) (by decide) (fun ad => ⟨by simp [Value.category], Nat.le_of_ble_eq_true rfl⟩) (fun ad => ⟨0, rfl⟩) ?_
  intro X _ hX hret
  have hcs : ((0 : Nat), (0 : Nat)).1 ≤ (sR X).cells ∧ ((0 : Nat), (0 : Nat)).2 ≤ (sR X).slots := ⟨Nat.zero_le _, Nat.zero_le _⟩
  generalize hcs0 : ((0 : Nat), (0 : Nat)) = cs at hcs hret ⊢
  unfold fX9_enough at h
  show sW X 1 cs σ 0 [some (.ref (sad X 0))] []
  refine s_aload_n hX dX9_enough_0 rfl ?_
  obtain ⟨σ1, hc, h⟩ := bn_some h
  refine s_callVV _ hX (cX9_analyse_ok (sl X)  hc) SH_0 mv_RX9_173_8 (fun _ => rfl) (by decide) (Nat.le_of_ble_eq_true rfl) hcs dX9_enough_1 rfl ?_
  refine s_aload_n hX dX9_enough_4 rfl ?_
  refine s_getR (r := 87) hX fo_RX9_32_8 SH_0 rfl dX9_enough_5 ?_
  obtain ⟨r2, hc, h⟩ := bn_some h
  refine s_callVI _ hX (cX1_usedVariables_ok (sl X)  hc) SH_87 mv_RX9_265_1 (fun _ => rfl) (by decide) (Nat.le_of_ble_eq_true rfl) hcs dX9_enough_8 rfl ?_
  refine s_aload_n hX dX9_enough_11 rfl ?_
  refine s_getR (r := 87) hX fo_RX9_32_8 SH_0 rfl dX9_enough_12 ?_
  refine s_getR (r := 91) hX fo_RX9_179_1 SH_87 rfl dX9_enough_15 ?_
  refine s_aload_n hX dX9_enough_18 rfl ?_
  refine s_getR (r := 120) hX fo_RX9_66_8 SH_0 rfl dX9_enough_19 ?_
  obtain ⟨σ3, hc, h⟩ := bn_some h
  refine s_callSV _ hX (cX9_colourGreedily_ok (sl X) SH_91 SH_120 hc) ms_RX9_268 (fun _ => rfl) (by decide) (Nat.le_of_ble_eq_true rfl) hcs dX9_enough_22 rfl ?_
  refine s_iconst 1 hX dX9_enough_25 (by decide) ?_
  refine s_aload_n hX dX9_enough_26 rfl ?_
  refine s_getR (r := 120) hX fo_RX9_66_8 SH_0 rfl dX9_enough_27 ?_
  obtain ⟨r4, hc, h⟩ := bn_some h
  refine s_callSI _ hX (cX9_numbersInUse_ok (sl X) SH_120 hc) ms_RX9_272 (fun _ => rfl) (by decide) (Nat.le_of_ble_eq_true rfl) hcs dX9_enough_30 rfl ?_
  refine s_max hX w3_59 (by decide) (Nat.le_of_ble_eq_true rfl) hcs dX9_enough_33 ?_
  obtain ⟨rfl, rfl⟩ := rt2 h
  exact hret _ _ (nzi _) dX9_enough_36
def fX3_reset_q (σ : Mm) : Option Mm :=
  (fJ7_fill_53178 σ 105 8 0).bind fun σ1 =>
  bd (upm σ1 104 (upd (σ1 104) 4 0)) fun σ2 =>
  bd (upm σ2 104 (upd (σ2 104) 5 0)) fun σ3 =>
  bd (upm σ3 104 (upd (σ3 104) 6 0)) fun σ4 =>
  some σ4
set_option maxHeartbeats 4000000 in
theorem cX3_reset_q_ok (l : Launch) {σ : Mm} {σ' : Mm}  (h : fX3_reset_q σ = some σ') : cV l yX3_reset cX3_reset 1 1 23 (fun ad => [.ref (ad 104)]) σ σ' := by
  refine c_enterV (fun ad => [some (.ref (ad 104))]) (by decide) (fun ad => ⟨by simp [Value.category], Nat.le_of_ble_eq_true rfl⟩) (fun ad => ⟨0, rfl⟩) ?_
  intro X _ hX hret
  have hcs : ((0 : Nat), (0 : Nat)).1 ≤ (sR X).cells ∧ ((0 : Nat), (0 : Nat)).2 ≤ (sR X).slots := ⟨Nat.zero_le _, Nat.zero_le _⟩
  generalize hcs0 : ((0 : Nat), (0 : Nat)) = cs at hcs hret ⊢
  unfold fX3_reset_q at h
  show sW X 1 cs σ 0 [some (.ref (sad X 104))] []
  refine s_aload_n hX dX3_reset_0 rfl ?_
  refine s_getR (r := 105) hX fo_RX3_9_3 SH_104 rfl dX3_reset_1 ?_
  refine s_iconst 0 hX dX3_reset_4 (by decide) ?_
  obtain ⟨σ1, hc, h⟩ := bn_some h
  refine s_callSV _ hX (cJ7_fill_53178_ok (sl X) SH_105 hc) ms_RX3_74 (fun _ => rfl) (by decide) (Nat.le_of_ble_eq_true rfl) hcs dX3_reset_5 rfl ?_
  refine s_aload_n hX dX3_reset_8 rfl ?_
  refine s_iconst 0 hX dX3_reset_9 (by decide) ?_
  obtain ⟨σ2, eσ2, h⟩ := bd_some h
  refine s_putI hX fo_RX3_80_3 SH_104 rfl dX3_reset_10 ?_
  refine s_mem σ2 eσ2 ?_
  refine s_aload_n hX dX3_reset_13 rfl ?_
  refine s_iconst 0 hX dX3_reset_14 (by decide) ?_
  obtain ⟨σ3, eσ3, h⟩ := bd_some h
  refine s_putI hX fo_RX3_83_3 SH_104 rfl dX3_reset_15 ?_
  refine s_mem σ3 eσ3 ?_
  refine s_aload_n hX dX3_reset_18 rfl ?_
  refine s_iconst 0 hX dX3_reset_19 (by decide) ?_
  obtain ⟨σ4, eσ4, h⟩ := bd_some h
  refine s_putI hX fo_RX3_86_3 SH_104 rfl dX3_reset_20 ?_
  refine s_mem σ4 eσ4 ?_
  obtain rfl := rt1 h
  exact hret _ _ dX3_reset_23
def fX4_prepare (σ : Mm) : Option Mm :=
  bd (upm σ 106 (va_cpy (σ 3) (σ 106) 0 0 12)) fun σ1 =>
  some σ1
set_option maxHeartbeats 4000000 in
theorem cX4_prepare_ok (l : Launch) {σ : Mm} {σ' : Mm}  (h : fX4_prepare σ = some σ') : cV l yX4_prepare cX4_prepare 1 1 40 (fun ad => [.ref (ad 104)]) σ σ' := by
  refine c_enterV (fun ad => [some (.ref (ad 104))]) (by decide) (fun ad => ⟨by simp [Value.category], Nat.le_of_ble_eq_true rfl⟩) (fun ad => ⟨0, rfl⟩) ?_
  intro X _ hX hret
  have hcs : ((0 : Nat), (0 : Nat)).1 ≤ (sR X).cells ∧ ((0 : Nat), (0 : Nat)).2 ≤ (sR X).slots := ⟨Nat.zero_le _, Nat.zero_le _⟩
  generalize hcs0 : ((0 : Nat), (0 : Nat)) = cs at hcs hret ⊢
  unfold fX4_prepare at h
  show sW X 1 cs σ 0 [some (.ref (sad X 104))] []
  refine s_aload_n hX dX4_prepare_0 rfl ?_
  refine s_getR (r := 1) hX fo_RX4_15_3 SH_104 rfl dX4_prepare_1 ?_
  refine s_getR (r := 3) hX fo_RX4_19_6 SH_1 rfl dX4_prepare_4 ?_
  refine s_iconst 0 hX dX4_prepare_7 (by decide) ?_
  refine s_aload_n hX dX4_prepare_8 rfl ?_
  refine s_getR (r := 106) hX fo_RX4_9_3 SH_104 rfl dX4_prepare_9 ?_
  refine s_iconst 0 hX dX4_prepare_12 (by decide) ?_
  refine s_bipush 12 hX dX4_prepare_13 (by decide) ?_
  obtain ⟨σ1, eσ1, h⟩ := bd_some h
  refine s_copy hX SH_3 SH_106 w5_94 (by decide) (by decide) (Nat.le_of_ble_eq_true rfl) dX4_prepare_15 ?_
  refine s_mem σ1 eσ1 ?_
  obtain rfl := rt1 h
  exact hret _ _ dX4_prepare_18
def fX4_enter (σ : Mm) (l1 : Int32) (l2 : Int32) : Option Unit :=
  some ()
set_option maxHeartbeats 4000000 in
theorem cX4_enter_ok (l : Launch) {σ : Mm} {l1 : Int32} {l2 : Int32}  (h : fX4_enter σ l1 l2 = some ()) : cV l yX4_enter cX4_enter 3 0 0 (fun ad => [.ref (ad 104), .int l1, .int l2]) σ σ := by
  refine c_enterV (fun ad => [some (.ref (ad 104)), some (.int l1), some (.int l2)]) (by decide) (fun ad => ⟨by simp [Value.category], Nat.le_of_ble_eq_true rfl⟩) (fun ad => ⟨0, rfl⟩) ?_
  intro X _ hX hret
  have hcs : ((0 : Nat), (0 : Nat)).1 ≤ (sR X).cells ∧ ((0 : Nat), (0 : Nat)).2 ≤ (sR X).slots := ⟨Nat.zero_le _, Nat.zero_le _⟩
  generalize hcs0 : ((0 : Nat), (0 : Nat)) = cs at hcs hret ⊢
  unfold fX4_enter at h
  show sW X 3 cs σ 0 [some (.ref (sad X 104)), some (.int l1), some (.int l2)] []
  exact hret _ _ dX4_enter_0
def fX3_moveTo_q (σ : Mm) (l1 : Int32) (l2 : Int32) : Option Mm :=
  (fX4_enter σ l1 l2).bind fun _ =>
  bd (upm σ 104 (upd (σ 104) 2 l2)) fun σ1 =>
  gd l2 8 <|
  gd l2 8 <|
  bd (upm σ1 105 (upd (σ1 105) l2.toNatClampNeg ((σ1 105 l2.toNatClampNeg) + 1))) fun σ4 =>
  some σ4
set_option maxHeartbeats 4000000 in
theorem cX3_moveTo_q_ok (l : Launch) {σ : Mm} {l1 : Int32} {l2 : Int32} {σ' : Mm}  (h : fX3_moveTo_q σ l1 l2 = some σ') : cV l yX3_moveTo cX3_moveTo 3 1 22 (fun ad => [.ref (ad 104), .int l1, .int l2]) σ σ' := by
  refine c_enterV (fun ad => [some (.ref (ad 104)), some (.int l1), some (.int l2)]) (by decide) (fun ad => ⟨by simp [Value.category], Nat.le_of_ble_eq_true rfl⟩) (fun ad => ⟨0, rfl⟩) ?_
  intro X _ hX hret
  have hcs : ((0 : Nat), (0 : Nat)).1 ≤ (sR X).cells ∧ ((0 : Nat), (0 : Nat)).2 ≤ (sR X).slots := ⟨Nat.zero_le _, Nat.zero_le _⟩
  generalize hcs0 : ((0 : Nat), (0 : Nat)) = cs at hcs hret ⊢
  unfold fX3_moveTo_q at h
  show sW X 3 cs σ 0 [some (.ref (sad X 104)), some (.int l1), some (.int l2)] []
  refine s_aload_n hX dX3_moveTo_0 rfl ?_
  refine s_iload_n hX dX3_moveTo_1 rfl ?_
  refine s_iload_n hX dX3_moveTo_2 rfl ?_
  obtain ⟨_, hc, h⟩ := bn_some h
  refine s_callVV _ hX (cX4_enter_ok (sl X)  hc) SH_104 mv_RX3_89_3 (fun _ => rfl) (by decide) (Nat.le_of_ble_eq_true rfl) hcs dX3_moveTo_3 rfl ?_
  refine s_aload_n hX dX3_moveTo_6 rfl ?_
  refine s_iload_n hX dX3_moveTo_7 rfl ?_
  obtain ⟨σ1, eσ1, h⟩ := bd_some h
  refine s_putI hX fo_RX3_39_3 SH_104 rfl dX3_moveTo_8 ?_
  refine s_mem σ1 eσ1 ?_
  refine s_aload_n hX dX3_moveTo_11 rfl ?_
  refine s_getR (r := 105) hX fo_RX3_9_3 SH_104 rfl dX3_moveTo_12 ?_
  refine s_iload_n hX dX3_moveTo_15 rfl ?_
  refine s_dup2 hX dX3_moveTo_16 rfl rfl ?_
  obtain ⟨c2, h⟩ := gd_some h
  refine s_iald hX SH_105 c2 dX3_moveTo_17 ?_
  refine s_iconst 1 hX dX3_moveTo_18 (by decide) ?_
  refine s_iadd hX dX3_moveTo_19 ?_
  obtain ⟨c3, h⟩ := gd_some h
  obtain ⟨σ4, eσ4, h⟩ := bd_some h
  refine s_iast hX SH_105 c3 dX3_moveTo_20 ?_
  refine s_mem σ4 eσ4 ?_
  obtain rfl := rt1 h
  exact hret _ _ dX3_moveTo_21
def fX4_fetch (σ : Mm) (l1 : Int32) : Option Int32 :=
  gd l1 12 <|
  some (σ 106 l1.toNatClampNeg)
set_option maxHeartbeats 4000000 in
theorem cX4_fetch_ok (l : Launch) {σ : Mm} {l1 : Int32} {r : Int32}  (h : fX4_fetch σ l1 = some r) : cI l yX4_fetch cX4_fetch 2 .int 0 0 (fun ad => [.ref (ad 104), .int l1]) σ r σ := by
  refine c_enterI (fun ad => [some (.ref (ad 104)), some (.int l1)]) (by decide) (fun ad => ⟨by simp [Value.category], Nat.le_of_ble_eq_true rfl⟩) (fun ad => ⟨0, rfl⟩) ?_
  intro X _ hX hret
  have hcs : ((0 : Nat), (0 : Nat)).1 ≤ (sR X).cells ∧ ((0 : Nat), (0 : Nat)).2 ≤ (sR X).slots := ⟨Nat.zero_le _, Nat.zero_le _⟩
  generalize hcs0 : ((0 : Nat), (0 : Nat)) = cs at hcs hret ⊢
  unfold fX4_fetch at h
  show sW X 2 cs σ 0 [some (.ref (sad X 104)), some (.int l1)] []
  refine s_aload_n hX dX4_fetch_0 rfl ?_
  refine s_getR (r := 106) hX fo_RX4_9_3 SH_104 rfl dX4_fetch_1 ?_
  refine s_iload_n hX dX4_fetch_4 rfl ?_
  obtain ⟨c1, h⟩ := gd_some h
  refine s_iald hX SH_106 c1 dX4_fetch_5 ?_
  obtain rfl := rt1 h
  exact hret _ _ (nzi _) dX4_fetch_6
def fX3_nextBlock_q (σ : Mm) (k1 : Nat) : Option Int32 :=
  if (σ k1 5) = 0 then
  some (σ k1 7)
else
  (fX4_fetch σ (σ k1 6)).bind fun r1 =>
  if r1 = 0 then
  some (σ k1 8)
else
  some (σ k1 7)
set_option maxHeartbeats 4000000 in
theorem cX3_nextBlock_q_ok (l : Launch) {σ : Mm} {k1 : Nat} {r : Int32} (hB1 : isB k1) (h : fX3_nextBlock_q σ k1 = some r) : cI l yX3_nextBlock cX3_nextBlock 2 .int 1 21 (fun ad => [.ref (ad 104), .ref (ad k1)]) σ r σ := by
  refine c_enterI (fun ad => [some (.ref (ad 104)), some (.ref (ad k1))]) (by decide) (fun ad => ⟨by simp [Value.category], Nat.le_of_ble_eq_true rfl⟩) (fun ad => ⟨0, rfl⟩) ?_
  intro X _ hX hret
  have hcs : ((0 : Nat), (0 : Nat)).1 ≤ (sR X).cells ∧ ((0 : Nat), (0 : Nat)).2 ≤ (sR X).slots := ⟨Nat.zero_le _, Nat.zero_le _⟩
  generalize hcs0 : ((0 : Nat), (0 : Nat)) = cs at hcs hret ⊢
  unfold fX3_nextBlock_q at h
  show sW X 2 cs σ 0 [some (.ref (sad X 104)), some (.ref (sad X k1))] []
  refine s_aload_n hX dX3_nextBlock_0 rfl ?_
  refine s_getI hX fo_RX3_57_0 (isB_0 hB1) rfl dX3_nextBlock_1 ?_
  refine s_if_ne (tgt := 12) hX dX3_nextBlock_4 (by decide) (fun c3 => ?_) (fun c3 => ?_)
  · replace h := (if_neg c3).symm.trans h
    refine s_aload_n hX dX3_nextBlock_12 rfl ?_
    refine s_aload_n hX dX3_nextBlock_13 rfl ?_
    refine s_getI hX fo_RX3_60_0 (isB_0 hB1) rfl dX3_nextBlock_14 ?_
    obtain ⟨r1, hc, h⟩ := bn_some h
    refine s_callVI _ hX (cX4_fetch_ok (sl X)  hc) SH_104 mv_RX3_63_3 (fun _ => rfl) (by decide) (Nat.le_of_ble_eq_true rfl) hcs dX3_nextBlock_17 rfl ?_
    refine s_if_eq (tgt := 30) hX dX3_nextBlock_20 (by decide) (fun c2 => ?_) (fun c2 => ?_)
    · replace h := (if_pos c2).symm.trans h
      refine s_aload_n hX dX3_nextBlock_30 rfl ?_
      refine s_getI hX fo_RX3_95_0 (isB_0 hB1) rfl dX3_nextBlock_31 ?_
      obtain rfl := rt1 h
      exact hret _ _ (nzi _) dX3_nextBlock_34
    · replace h := (if_neg c2).symm.trans h
      refine s_aload_n hX dX3_nextBlock_23 rfl ?_
      refine s_getI hX fo_RX3_92_0 (isB_0 hB1) rfl dX3_nextBlock_24 ?_
      refine s_goto (tgt := 34) hX dX3_nextBlock_27 (by decide) ?_
      obtain rfl := rt1 h
      exact hret _ _ (nzi _) dX3_nextBlock_34
  · replace h := (if_pos c3).symm.trans h
    refine s_aload_n hX dX3_nextBlock_7 rfl ?_
    refine s_getI hX fo_RX3_92_0 (isB_0 hB1) rfl dX3_nextBlock_8 ?_
    obtain rfl := rt1 h
    exact hret _ _ (nzi _) dX3_nextBlock_11
def fX3_valueOf_q (σ : Mm) (k1 : Nat) (l2 : Int32) : Option Int32 :=
  gd l2 8 <|
  if (σ (k1 + 1) l2.toNatClampNeg) = 0 then
  gd l2 8 <|
  some (σ (k1 + 3) l2.toNatClampNeg)
else
  gd l2 8 <|
  (fX4_fetch σ (σ (k1 + 3) l2.toNatClampNeg)).bind fun r3 =>
  gd l2 8 <|
  if (σ (k1 + 1) l2.toNatClampNeg) = 1 then
  some r3
else
  gd l2 8 <|
  gd l2 8 <|
  jn (fun (v7 : Int32) => gd l2 8 <|
  bd (σ (k1 + 1) l2.toNatClampNeg) fun v10 =>
  if v10 = 2 then
  some (r3 + v7)
else if v10 = 3 then
  some (r3 - v7)
else 
  some (r3 * v7)) fun j8 =>
  if (σ (k1 + 4) l2.toNatClampNeg) = (σ (k1 + 3) l2.toNatClampNeg) then
  j8 r3
else
  gd l2 8 <|
  (fX4_fetch σ (σ (k1 + 4) l2.toNatClampNeg)).bind fun r14 =>
  j8 r14
set_option maxHeartbeats 4000000 in
theorem cX3_valueOf_q_ok (l : Launch) {σ : Mm} {k1 : Nat} {l2 : Int32} {r : Int32} (hB1 : isB k1) (h : fX3_valueOf_q σ k1 l2 = some r) : cI l yX3_valueOf cX3_valueOf 5 .int 1 21 (fun ad => [.ref (ad 104), .ref (ad k1), .int l2]) σ r σ := by
  refine c_enterI (fun ad => [some (.ref (ad 104)), some (.ref (ad k1)), some (.int l2), none, none]) (by decide) (fun ad => ⟨by simp [Value.category], Nat.le_of_ble_eq_true rfl⟩) (fun ad => ⟨2, rfl⟩) ?_
  intro X _ hX hret
  have hcs : ((0 : Nat), (0 : Nat)).1 ≤ (sR X).cells ∧ ((0 : Nat), (0 : Nat)).2 ≤ (sR X).slots := ⟨Nat.zero_le _, Nat.zero_le _⟩
  generalize hcs0 : ((0 : Nat), (0 : Nat)) = cs at hcs hret ⊢
  unfold fX3_valueOf_q at h
  show sW X 5 cs σ 0 [some (.ref (sad X 104)), some (.ref (sad X k1)), some (.int l2), none, none] []
  refine s_aload_n hX dX3_valueOf_0 rfl ?_
  refine s_getR (r := k1 + 1) hX fo_RX3_98_0 (isB_0 hB1) rfl dX3_valueOf_1 ?_
  refine s_iload_n hX dX3_valueOf_4 rfl ?_
  obtain ⟨c1, h⟩ := gd_some h
  refine s_iald hX (isB_r hB1).1 c1 dX3_valueOf_5 ?_
  refine s_if_ne (tgt := 16) hX dX3_valueOf_6 (by decide) (fun c18 => ?_) (fun c18 => ?_)
  · replace h := (if_neg c18).symm.trans h
    refine s_aload_n hX dX3_valueOf_16 rfl ?_
    refine s_aload_n hX dX3_valueOf_17 rfl ?_
    refine s_getR (r := k1 + 3) hX fo_RX3_101_0 (isB_0 hB1) rfl dX3_valueOf_18 ?_
    refine s_iload_n hX dX3_valueOf_21 rfl ?_
    obtain ⟨c2, h⟩ := gd_some h
    refine s_iald hX (isB_r hB1).2.2.1 c2 dX3_valueOf_22 ?_
    obtain ⟨r3, hc, h⟩ := bn_some h
    refine s_callVI _ hX (cX4_fetch_ok (sl X)  hc) SH_104 mv_RX3_63_3 (fun _ => rfl) (by decide) (Nat.le_of_ble_eq_true rfl) hcs dX3_valueOf_23 rfl ?_
    refine s_istore_n hX dX3_valueOf_26 (by decide) ?_
    refine s_aload_n hX dX3_valueOf_27 rfl ?_
    refine s_getR (r := k1 + 1) hX fo_RX3_98_0 (isB_0 hB1) rfl dX3_valueOf_28 ?_
    refine s_iload_n hX dX3_valueOf_31 rfl ?_
    obtain ⟨c4, h⟩ := gd_some h
    refine s_iald hX (isB_r hB1).1 c4 dX3_valueOf_32 ?_
    refine s_iconst 1 hX dX3_valueOf_33 (by decide) ?_
    refine s_ic_ne (tgt := 39) hX dX3_valueOf_34 (by decide) (fun c16 => ?_) (fun c16 => ?_)
    · replace h := (if_neg c16).symm.trans h
      refine s_aload_n hX dX3_valueOf_39 rfl ?_
      refine s_getR (r := k1 + 4) hX fo_RX3_104_0 (isB_0 hB1) rfl dX3_valueOf_40 ?_
      refine s_iload_n hX dX3_valueOf_43 rfl ?_
      obtain ⟨c5, h⟩ := gd_some h
      refine s_iald hX (isB_r hB1).2.2.2 c5 dX3_valueOf_44 ?_
      refine s_aload_n hX dX3_valueOf_45 rfl ?_
      refine s_getR (r := k1 + 3) hX fo_RX3_101_0 (isB_0 hB1) rfl dX3_valueOf_46 ?_
      refine s_iload_n hX dX3_valueOf_49 rfl ?_
      obtain ⟨c6, h⟩ := gd_some h
      refine s_iald hX (isB_r hB1).2.2.1 c6 dX3_valueOf_50 ?_
      refine jn_use (fun j => ∀ (v7 : Int32), j v7 = some r → sW X 5 cs σ 68 [none, some (.ref (sad X k1)), some (.int l2), some (.int r3), none] [.int v7]) h ?_ ?_
      · intro v7 h
        refine s_istore hX dX3_valueOf_68 (by decide) ?_
        refine s_aload_n hX dX3_valueOf_70 rfl ?_
        refine s_getR (r := k1 + 1) hX fo_RX3_98_0 (isB_0 hB1) rfl dX3_valueOf_71 ?_
        refine s_iload_n hX dX3_valueOf_74 rfl ?_
        obtain ⟨c9, h⟩ := gd_some h
        refine s_iald hX (isB_r hB1).1 c9 dX3_valueOf_75 ?_
        obtain ⟨v10, ev10, h⟩ := bd_some h
        refine s_topi v10 ev10 ?_
        by_cases c11 : v10 = 2
        · replace h := (if_pos c11).symm.trans h
          refine s_lsw (tgt := 104) (off := 28) hX dX3_valueOf_76 rfl (by rw [c11]; first | done | rfl) (by decide) ?_
          refine s_iload_n hX dX3_valueOf_104 rfl ?_
          refine s_iload hX dX3_valueOf_105 rfl ?_
          refine s_iadd hX dX3_valueOf_107 ?_
          obtain rfl := rt1 h
          exact hret _ _ (nzi _) dX3_valueOf_108
        · replace h := (if_neg c11).symm.trans h
          by_cases c12 : v10 = 3
          · replace h := (if_pos c12).symm.trans h
            refine s_lsw (tgt := 109) (off := 33) hX dX3_valueOf_76 rfl (by rw [c12]; first | done | rfl) (by decide) ?_
            refine s_iload_n hX dX3_valueOf_109 rfl ?_
            refine s_iload hX dX3_valueOf_110 rfl ?_
            refine s_isub hX dX3_valueOf_112 ?_
            obtain rfl := rt1 h
            exact hret _ _ (nzi _) dX3_valueOf_113
          · replace h := (if_neg c12).symm.trans h
            refine s_lsw (tgt := 114) (off := 38) hX dX3_valueOf_76 rfl ((lv_osw c11 rfl).trans ((lv_osw c12 rfl).trans rfl)) (by decide) ?_
            refine s_iload_n hX dX3_valueOf_114 rfl ?_
            refine s_iload hX dX3_valueOf_115 rfl ?_
            refine s_imul hX dX3_valueOf_117 ?_
            obtain rfl := rt1 h
            exact hret _ _ (nzi _) dX3_valueOf_118
      · intro j8 hj8 h
        refine s_ic_ne (tgt := 58) hX dX3_valueOf_51 (by decide) (fun c15 => ?_) (fun c15 => ?_)
        · replace h := (if_neg c15).symm.trans h
          refine s_aload_n hX dX3_valueOf_58 rfl ?_
          refine s_aload_n hX dX3_valueOf_59 rfl ?_
          refine s_getR (r := k1 + 4) hX fo_RX3_104_0 (isB_0 hB1) rfl dX3_valueOf_60 ?_
          refine s_iload_n hX dX3_valueOf_63 rfl ?_
          obtain ⟨c13, h⟩ := gd_some h
          refine s_iald hX (isB_r hB1).2.2.2 c13 dX3_valueOf_64 ?_
          obtain ⟨r14, hc, h⟩ := bn_some h
          refine s_callVI _ hX (cX4_fetch_ok (sl X)  hc) SH_104 mv_RX3_63_3 (fun _ => rfl) (by decide) (Nat.le_of_ble_eq_true rfl) hcs dX3_valueOf_65 rfl ?_
          refine s_mask [false, true, true, true, false] ?_
          exact hj8 _ h
        · replace h := (if_pos c15).symm.trans h
          refine s_iload_n hX dX3_valueOf_54 rfl ?_
          refine s_goto (tgt := 68) hX dX3_valueOf_55 (by decide) ?_
          refine s_mask [false, true, true, true, false] ?_
          exact hj8 _ h
    · replace h := (if_pos c16).symm.trans h
      refine s_iload_n hX dX3_valueOf_37 rfl ?_
      obtain rfl := rt1 h
      exact hret _ _ (nzi _) dX3_valueOf_38
  · replace h := (if_pos c18).symm.trans h
    refine s_aload_n hX dX3_valueOf_9 rfl ?_
    refine s_getR (r := k1 + 3) hX fo_RX3_101_0 (isB_0 hB1) rfl dX3_valueOf_10 ?_
    refine s_iload_n hX dX3_valueOf_13 rfl ?_
    obtain ⟨c17, h⟩ := gd_some h
    refine s_iald hX (isB_r hB1).2.2.1 c17 dX3_valueOf_14 ?_
    obtain rfl := rt1 h
    exact hret _ _ (nzi _) dX3_valueOf_15
def fX4_put (σ : Mm) (l1 : Int32) (l2 : Int32) : Option Mm :=
  gd l1 12 <|
  bd (upm σ 106 (upd (σ 106) l1.toNatClampNeg l2)) fun σ2 =>
  some σ2
set_option maxHeartbeats 4000000 in
theorem cX4_put_ok (l : Launch) {σ : Mm} {l1 : Int32} {l2 : Int32} {σ' : Mm}  (h : fX4_put σ l1 l2 = some σ') : cV l yX4_put cX4_put 3 0 0 (fun ad => [.ref (ad 104), .int l1, .int l2]) σ σ' := by
  refine c_enterV (fun ad => [some (.ref (ad 104)), some (.int l1), some (.int l2)]) (by decide) (fun ad => ⟨by simp [Value.category], Nat.le_of_ble_eq_true rfl⟩) (fun ad => ⟨0, rfl⟩) ?_
  intro X _ hX hret
  have hcs : ((0 : Nat), (0 : Nat)).1 ≤ (sR X).cells ∧ ((0 : Nat), (0 : Nat)).2 ≤ (sR X).slots := ⟨Nat.zero_le _, Nat.zero_le _⟩
  generalize hcs0 : ((0 : Nat), (0 : Nat)) = cs at hcs hret ⊢
  unfold fX4_put at h
  show sW X 3 cs σ 0 [some (.ref (sad X 104)), some (.int l1), some (.int l2)] []
  refine s_aload_n hX dX4_put_0 rfl ?_
  refine s_getR (r := 106) hX fo_RX4_9_3 SH_104 rfl dX4_put_1 ?_
  refine s_iload_n hX dX4_put_4 rfl ?_
  refine s_iload_n hX dX4_put_5 rfl ?_
  obtain ⟨c1, h⟩ := gd_some h
  obtain ⟨σ2, eσ2, h⟩ := bd_some h
  refine s_iast hX SH_106 c1 dX4_put_6 ?_
  refine s_mem σ2 eσ2 ?_
  obtain rfl := rt1 h
  exact hret _ _ dX4_put_7
def gX3_execute_q_21 (l1 : Int32) (rec : Mm × Int32 → Option ((Int32 × Mm) ⊕ (Mm))) (σ : Mm) (x2 : Int32) : Option ((Int32 × Mm) ⊕ (Mm)) :=
  if l1 < (σ 104 3) then
  some (.inr σ)
else
  gd (σ 104 2) 8 <|
  bd (4 + 5 * (σ 104 2).toNatClampNeg) fun k2 =>
  if (σ k2 4) ≤ x2 then
  if (σ k2 5) = 2 then
  (fX4_fetch σ (σ k2 6)).bind fun r6 =>
  bd (upm σ 104 (upd (σ 104) 7 r6)) fun σ7 =>
  some (.inl (1, σ7))
else
  (fX3_nextBlock_q σ k2).bind fun r3 =>
  (fX3_moveTo_q σ (σ 104 2) r3).bind fun σ4 =>
  bd (upm σ4 104 (upd (σ4 104) 3 ((σ4 104 3) + 1))) fun σ5 =>
  rec (σ5, 0)
else
  gd x2 8 <|
  (fX3_valueOf_q σ k2 x2).bind fun r10 =>
  (fX4_put σ (σ (k2 + 2) x2.toNatClampNeg) r10).bind fun σ11 =>
  bd (x2 + 1) fun v12 =>
  bd (upm σ11 104 (upd (σ11 104) 3 ((σ11 104 3) + 1))) fun σ13 =>
  rec (σ13, v12)
def qX3_execute_q_21 (l1 : Int32) : Nat → Mm × Int32 → Option ((Int32 × Mm) ⊕ (Mm)) := lp (fun rec s => gX3_execute_q_21 l1 rec s.1 s.2)
def fX3_execute_q (σ : Mm) (l1 : Int32) : Option (Int32 × Mm) :=
  (fX3_reset_q σ).bind fun σ1 =>
  (fX4_prepare σ1).bind fun σ2 =>
  (fX3_moveTo_q σ2 (-1) 0).bind fun σ3 =>
  bd (upm σ3 104 (upd (σ3 104) 3 1)) fun σ4 =>
  bns (qX3_execute_q_21 l1 FU (σ4, 0)) (fun u => some u) (fun σ5 => some (0, σ5))
set_option maxHeartbeats 4000000 in
theorem pX3_execute_q_21 {X : sT} {cs : Nat × Nat} (hX : sX X cX3_execute RX3 4 2 60) (hcs : cs.1 ≤ (sR X).cells ∧ cs.2 ≤ (sR X).slots) (l1 : Int32)  : ∀ (n : Nat) (s : Mm × Int32) (r : (Int32 × Mm) ⊕ (Mm)), qX3_execute_q_21 l1 n s = some r → (∀ u, r = .inr u → sW X 4 cs u 122 [none, none, none, none] []) → (∀ u, r = .inl u → ∀ pc L, narrow .boolean (.int u.1) = .int u.1 → decode cX3_execute pc = .ok (.ireturn, 1) → sW X 4 cs u.2 pc L [.int u.1]) → sW X 4 cs s.1 21 [some (.ref (sad X 104)), some (.int l1), some (.int s.2), none] [] := by
  refine lp_ind (P := fun (s : Mm × Int32) (r : (Int32 × Mm) ⊕ (Mm)) => (∀ u, r = .inr u → sW X 4 cs u 122 [none, none, none, none] []) → (∀ u, r = .inl u → ∀ pc L, narrow .boolean (.int u.1) = .int u.1 → decode cX3_execute pc = .ok (.ireturn, 1) → sW X 4 cs u.2 pc L [.int u.1]) → sW X 4 cs s.1 21 [some (.ref (sad X 104)), some (.int l1), some (.int s.2), none] []) ?_
  intro rec hrec s r h0 hk hr
  obtain ⟨σ, x2⟩ := s
  have h : gX3_execute_q_21 l1 rec σ x2 = some r := h0
  unfold gX3_execute_q_21 at h
  show sW X 4 cs σ 21 [some (.ref (sad X 104)), some (.int l1), some (.int x2), none] []
  refine s_aload_n hX dX3_execute_21 rfl ?_
  refine s_getI hX fo_RX3_29_3 SH_104 rfl dX3_execute_22 ?_
  refine s_iload_n hX dX3_execute_25 rfl ?_
  refine s_ic_gt (tgt := 122) hX dX3_execute_26 (by decide) (fun c15 => ?_) (fun c15 => ?_)
  · replace h := (if_pos c15).symm.trans h
    obtain rfl := rt1 h
    refine s_mask [false, false, false, false] ?_
    exact hk _ rfl
  · replace h := (if_neg c15).symm.trans h
    refine s_aload_n hX dX3_execute_29 rfl ?_
    refine s_getR (r := 1) hX fo_RX3_15_3 SH_104 rfl dX3_execute_30 ?_
    refine s_getR (r := 2) hX fo_RX3_33_6 SH_1 rfl dX3_execute_33 ?_
    refine s_aload_n hX dX3_execute_36 rfl ?_
    refine s_getI hX fo_RX3_39_3 SH_104 rfl dX3_execute_37 ?_
    obtain ⟨c1, h⟩ := gd_some h
    obtain ⟨k2, ek2, h⟩ := bd_some h
    have Bk2 : isB k2 := Or.inl ⟨_, vp_lt c1, ek2⟩
    refine s_aaldP hX c1 dX3_execute_40 ?_
    refine s_topr k2 ek2 ?_
    refine s_astore_n hX dX3_execute_41 (by decide) ?_
    refine s_iload_n hX dX3_execute_42 rfl ?_
    refine s_aload_n hX dX3_execute_43 rfl ?_
    refine s_getI hX fo_RX3_42_0 (isB_0 Bk2) rfl dX3_execute_44 ?_
    refine s_ic_ge (tgt := 72) hX dX3_execute_47 (by decide) (fun c14 => ?_) (fun c14 => ?_)
    · replace h := (if_pos c14).symm.trans h
      refine s_aload_n hX dX3_execute_72 rfl ?_
      refine s_getI hX fo_RX3_57_0 (isB_0 Bk2) rfl dX3_execute_73 ?_
      refine s_iconst 2 hX dX3_execute_76 (by decide) ?_
      refine s_ic_ne (tgt := 94) hX dX3_execute_77 (by decide) (fun c8 => ?_) (fun c8 => ?_)
      · replace h := (if_neg c8).symm.trans h
        refine s_aload_n hX dX3_execute_94 rfl ?_
        refine s_aload_n hX dX3_execute_95 rfl ?_
        refine s_getI hX fo_RX3_39_3 SH_104 rfl dX3_execute_96 ?_
        refine s_aload_n hX dX3_execute_99 rfl ?_
        refine s_aload_n hX dX3_execute_100 rfl ?_
        obtain ⟨r3, hc, h⟩ := bn_some h
        refine s_callVI _ hX (cX3_nextBlock_q_ok (sl X) Bk2 hc) SH_104 mv_RX3_70_3 (fun _ => rfl) (by decide) (Nat.le_of_ble_eq_true rfl) hcs dX3_execute_101 rfl ?_
        obtain ⟨σ4, hc, h⟩ := bn_some h
        refine s_callVV _ hX (cX3_moveTo_q_ok (sl X)  hc) SH_104 mv_RX3_25_3 (fun _ => rfl) (by decide) (Nat.le_of_ble_eq_true rfl) hcs dX3_execute_104 rfl ?_
        refine s_iconst 0 hX dX3_execute_107 (by decide) ?_
        refine s_istore_n hX dX3_execute_108 (by decide) ?_
        refine s_aload_n hX dX3_execute_109 rfl ?_
        refine s_dup hX dX3_execute_110 rfl ?_
        refine s_getI hX fo_RX3_29_3 SH_104 rfl dX3_execute_111 ?_
        refine s_iconst 1 hX dX3_execute_114 (by decide) ?_
        refine s_iadd hX dX3_execute_115 ?_
        obtain ⟨σ5, eσ5, h⟩ := bd_some h
        refine s_putI hX fo_RX3_29_3 SH_104 rfl dX3_execute_116 ?_
        refine s_mem σ5 eσ5 ?_
        refine s_goto (tgt := 21) hX dX3_execute_119 (by decide) ?_
        refine s_mask [true, true, true, false] ?_
        exact hrec _ _ h hk hr
      · replace h := (if_pos c8).symm.trans h
        refine s_aload_n hX dX3_execute_80 rfl ?_
        refine s_aload_n hX dX3_execute_81 rfl ?_
        refine s_aload_n hX dX3_execute_82 rfl ?_
        refine s_getI hX fo_RX3_60_0 (isB_0 Bk2) rfl dX3_execute_83 ?_
        obtain ⟨r6, hc, h⟩ := bn_some h
        refine s_callVI _ hX (cX4_fetch_ok (sl X)  hc) SH_104 mv_RX3_63_3 (fun _ => rfl) (by decide) (Nat.le_of_ble_eq_true rfl) hcs dX3_execute_86 rfl ?_
        obtain ⟨σ7, eσ7, h⟩ := bd_some h
        refine s_putI hX fo_RX3_67_3 SH_104 rfl dX3_execute_89 ?_
        refine s_mem σ7 eσ7 ?_
        refine s_iconst 1 hX dX3_execute_92 (by decide) ?_
        obtain rfl := rt1 h
        exact hr _ rfl _ _ nz1 dX3_execute_93
    · replace h := (if_neg c14).symm.trans h
      refine s_aload_n hX dX3_execute_50 rfl ?_
      refine s_aload_n hX dX3_execute_51 rfl ?_
      refine s_getR (r := k2 + 2) hX fo_RX3_47_0 (isB_0 Bk2) rfl dX3_execute_52 ?_
      refine s_iload_n hX dX3_execute_55 rfl ?_
      obtain ⟨c9, h⟩ := gd_some h
      refine s_iald hX (isB_r Bk2).2.1 c9 dX3_execute_56 ?_
      refine s_aload_n hX dX3_execute_57 rfl ?_
      refine s_aload_n hX dX3_execute_58 rfl ?_
      refine s_iload_n hX dX3_execute_59 rfl ?_
      obtain ⟨r10, hc, h⟩ := bn_some h
      refine s_callVI _ hX (cX3_valueOf_q_ok (sl X) Bk2 hc) SH_104 mv_RX3_50_3 (fun _ => rfl) (by decide) (Nat.le_of_ble_eq_true rfl) hcs dX3_execute_60 rfl ?_
      obtain ⟨σ11, hc, h⟩ := bn_some h
      refine s_callVV _ hX (cX4_put_ok (sl X)  hc) SH_104 mv_RX3_54_3 (fun _ => rfl) (by decide) (Nat.le_of_ble_eq_true rfl) hcs dX3_execute_63 rfl ?_
      obtain ⟨v12, ev12, h⟩ := bd_some h
      refine s_iinc v12 hX dX3_execute_66 rfl (by rw [ev12]; rfl) (by decide) ?_
      refine s_goto (tgt := 109) hX dX3_execute_69 (by decide) ?_
      refine s_aload_n hX dX3_execute_109 rfl ?_
      refine s_dup hX dX3_execute_110 rfl ?_
      refine s_getI hX fo_RX3_29_3 SH_104 rfl dX3_execute_111 ?_
      refine s_iconst 1 hX dX3_execute_114 (by decide) ?_
      refine s_iadd hX dX3_execute_115 ?_
      obtain ⟨σ13, eσ13, h⟩ := bd_some h
      refine s_putI hX fo_RX3_29_3 SH_104 rfl dX3_execute_116 ?_
      refine s_mem σ13 eσ13 ?_
      refine s_goto (tgt := 21) hX dX3_execute_119 (by decide) ?_
      refine s_mask [true, true, true, false] ?_
      exact hrec _ _ h hk hr
set_option maxHeartbeats 4000000 in
theorem cX3_execute_q_ok (l : Launch) {σ : Mm} {l1 : Int32} {r : Int32} {σ' : Mm}  (h : fX3_execute_q σ l1 = some (r, σ')) : cI l yX3_execute cX3_execute 4 .boolean 2 60 (fun ad => [.ref (ad 104), .int l1]) σ r σ' := by
  refine c_enterI (fun ad => [some (.ref (ad 104)), some (.int l1), none, none]) (by decide) (fun ad => ⟨by simp [Value.category], Nat.le_of_ble_eq_true rfl⟩) (fun ad => ⟨2, rfl⟩) ?_
  intro X _ hX hret
  have hcs : ((0 : Nat), (0 : Nat)).1 ≤ (sR X).cells ∧ ((0 : Nat), (0 : Nat)).2 ≤ (sR X).slots := ⟨Nat.zero_le _, Nat.zero_le _⟩
  generalize hcs0 : ((0 : Nat), (0 : Nat)) = cs at hcs hret ⊢
  unfold fX3_execute_q at h
  show sW X 4 cs σ 0 [some (.ref (sad X 104)), some (.int l1), none, none] []
  refine s_aload_n hX dX3_execute_0 rfl ?_
  obtain ⟨σ1, hc, h⟩ := bn_some h
  refine s_callVV _ hX (cX3_reset_q_ok (sl X)  hc) SH_104 mv_RX3_19_3 (fun _ => rfl) (by decide) (Nat.le_of_ble_eq_true rfl) hcs dX3_execute_1 rfl ?_
  refine s_aload_n hX dX3_execute_4 rfl ?_
  obtain ⟨σ2, hc, h⟩ := bn_some h
  refine s_callVV _ hX (cX4_prepare_ok (sl X)  hc) SH_104 mv_RX3_22_3 (fun _ => rfl) (by decide) (Nat.le_of_ble_eq_true rfl) hcs dX3_execute_5 rfl ?_
  refine s_aload_n hX dX3_execute_8 rfl ?_
  refine s_iconst (-1) hX dX3_execute_9 (by decide) ?_
  refine s_iconst 0 hX dX3_execute_10 (by decide) ?_
  obtain ⟨σ3, hc, h⟩ := bn_some h
  refine s_callVV _ hX (cX3_moveTo_q_ok (sl X)  hc) SH_104 mv_RX3_25_3 (fun _ => rfl) (by decide) (Nat.le_of_ble_eq_true rfl) hcs dX3_execute_11 rfl ?_
  refine s_iconst 0 hX dX3_execute_14 (by decide) ?_
  refine s_istore_n hX dX3_execute_15 (by decide) ?_
  refine s_aload_n hX dX3_execute_16 rfl ?_
  refine s_iconst 1 hX dX3_execute_17 (by decide) ?_
  obtain ⟨σ4, eσ4, h⟩ := bd_some h
  refine s_putI hX fo_RX3_29_3 SH_104 rfl dX3_execute_18 ?_
  refine s_mem σ4 eσ4 ?_
  refine s_mask [true, true, true, false] ?_
  rcases bns_some h with ⟨u, hc, h⟩ | ⟨u, hc, h⟩
  · cases h
    exact pX3_execute_q_21 hX hcs _ _ _ _ hc (fun _ e => nomatch e) (fun w e pc L nn d => by cases e; exact hret pc L nn d)
  · obtain ⟨σ5, e0⟩ : ∃ z, z = u := ⟨u, rfl⟩
    subst e0
    refine pX3_execute_q_21 hX hcs _ _ _ _ hc (fun w e => ?_) (fun w e => nomatch e)
    cases e
    refine s_iconst 0 hX dX3_execute_122 (by decide) ?_
    obtain ⟨rfl, rfl⟩ := rt2 h
    exact hret _ _ nz0 dX3_execute_123
def fX3_reset_r (σ : Mm) : Option Mm :=
  (fJ7_fill_53178 σ 108 8 0).bind fun σ1 =>
  bd (upm σ1 107 (upd (σ1 107) 4 0)) fun σ2 =>
  bd (upm σ2 107 (upd (σ2 107) 5 0)) fun σ3 =>
  bd (upm σ3 107 (upd (σ3 107) 6 0)) fun σ4 =>
  some σ4
set_option maxHeartbeats 4000000 in
theorem cX3_reset_r_ok (l : Launch) {σ : Mm} {σ' : Mm}  (h : fX3_reset_r σ = some σ') : cV l yX3_reset cX3_reset 1 1 23 (fun ad => [.ref (ad 107)]) σ σ' := by
  refine c_enterV (fun ad => [some (.ref (ad 107))]) (by decide) (fun ad => ⟨by simp [Value.category], Nat.le_of_ble_eq_true rfl⟩) (fun ad => ⟨0, rfl⟩) ?_
  intro X _ hX hret
  have hcs : ((0 : Nat), (0 : Nat)).1 ≤ (sR X).cells ∧ ((0 : Nat), (0 : Nat)).2 ≤ (sR X).slots := ⟨Nat.zero_le _, Nat.zero_le _⟩
  generalize hcs0 : ((0 : Nat), (0 : Nat)) = cs at hcs hret ⊢
  unfold fX3_reset_r at h
  show sW X 1 cs σ 0 [some (.ref (sad X 107))] []
  refine s_aload_n hX dX3_reset_0 rfl ?_
  refine s_getR (r := 108) hX fo_RX3_9_5 SH_107 rfl dX3_reset_1 ?_
  refine s_iconst 0 hX dX3_reset_4 (by decide) ?_
  obtain ⟨σ1, hc, h⟩ := bn_some h
  refine s_callSV _ hX (cJ7_fill_53178_ok (sl X) SH_108 hc) ms_RX3_74 (fun _ => rfl) (by decide) (Nat.le_of_ble_eq_true rfl) hcs dX3_reset_5 rfl ?_
  refine s_aload_n hX dX3_reset_8 rfl ?_
  refine s_iconst 0 hX dX3_reset_9 (by decide) ?_
  obtain ⟨σ2, eσ2, h⟩ := bd_some h
  refine s_putI hX fo_RX3_80_5 SH_107 rfl dX3_reset_10 ?_
  refine s_mem σ2 eσ2 ?_
  refine s_aload_n hX dX3_reset_13 rfl ?_
  refine s_iconst 0 hX dX3_reset_14 (by decide) ?_
  obtain ⟨σ3, eσ3, h⟩ := bd_some h
  refine s_putI hX fo_RX3_83_5 SH_107 rfl dX3_reset_15 ?_
  refine s_mem σ3 eσ3 ?_
  refine s_aload_n hX dX3_reset_18 rfl ?_
  refine s_iconst 0 hX dX3_reset_19 (by decide) ?_
  obtain ⟨σ4, eσ4, h⟩ := bd_some h
  refine s_putI hX fo_RX3_86_5 SH_107 rfl dX3_reset_20 ?_
  refine s_mem σ4 eσ4 ?_
  obtain rfl := rt1 h
  exact hret _ _ dX3_reset_23
def fX6_placeInitial (σ : Mm) (l1 : Int32) : Option Mm :=
  gd l1 12 <|
  if (σ 98 l1.toNatClampNeg) = 0 then
  gd l1 12 <|
  gd l1 12 <|
  gd (σ 99 l1.toNatClampNeg) 12 <|
  bd (upm σ 109 (upd (σ 109) (σ 99 l1.toNatClampNeg).toNatClampNeg (σ 3 l1.toNatClampNeg))) fun σ11 =>
  some σ11
else
  gd l1 12 <|
  if (σ 98 l1.toNatClampNeg) = 1 then
  gd l1 12 <|
  gd l1 12 <|
  gd (σ 100 l1.toNatClampNeg) 12 <|
  bd (upm σ 110 (upd (σ 110) (σ 100 l1.toNatClampNeg).toNatClampNeg (σ 3 l1.toNatClampNeg))) fun σ6 =>
  some σ6
else
  some σ
set_option maxHeartbeats 4000000 in
theorem cX6_placeInitial_ok (l : Launch) {σ : Mm} {l1 : Int32} {σ' : Mm}  (h : fX6_placeInitial σ l1 = some σ') : cV l yX6_placeInitial cX6_placeInitial 2 0 0 (fun ad => [.ref (ad 107), .int l1]) σ σ' := by
  refine c_enterV (fun ad => [some (.ref (ad 107)), some (.int l1)]) (by decide) (fun ad => ⟨by simp [Value.category], Nat.le_of_ble_eq_true rfl⟩) (fun ad => ⟨0, rfl⟩) ?_
  intro X _ hX hret
  have hcs : ((0 : Nat), (0 : Nat)).1 ≤ (sR X).cells ∧ ((0 : Nat), (0 : Nat)).2 ≤ (sR X).slots := ⟨Nat.zero_le _, Nat.zero_le _⟩
  generalize hcs0 : ((0 : Nat), (0 : Nat)) = cs at hcs hret ⊢
  unfold fX6_placeInitial at h
  show sW X 2 cs σ 0 [some (.ref (sad X 107)), some (.int l1)] []
  refine s_aload_n hX dX6_placeInitial_0 rfl ?_
  refine s_getR (r := 97) hX fo_RX6_24_5 SH_107 rfl dX6_placeInitial_1 ?_
  refine s_getR (r := 98) hX fo_RX6_54_4 SH_97 rfl dX6_placeInitial_4 ?_
  refine s_iload_n hX dX6_placeInitial_7 rfl ?_
  obtain ⟨c1, h⟩ := gd_some h
  refine s_iald hX SH_98 c1 dX6_placeInitial_8 ?_
  refine s_if_ne (tgt := 38) hX dX6_placeInitial_9 (by decide) (fun c12 => ?_) (fun c12 => ?_)
  · replace h := (if_neg c12).symm.trans h
    refine s_aload_n hX dX6_placeInitial_38 rfl ?_
    refine s_getR (r := 97) hX fo_RX6_24_5 SH_107 rfl dX6_placeInitial_39 ?_
    refine s_getR (r := 98) hX fo_RX6_54_4 SH_97 rfl dX6_placeInitial_42 ?_
    refine s_iload_n hX dX6_placeInitial_45 rfl ?_
    obtain ⟨c2, h⟩ := gd_some h
    refine s_iald hX SH_98 c2 dX6_placeInitial_46 ?_
    refine s_iconst 1 hX dX6_placeInitial_47 (by decide) ?_
    refine s_ic_ne (tgt := 74) hX dX6_placeInitial_48 (by decide) (fun c7 => ?_) (fun c7 => ?_)
    · replace h := (if_neg c7).symm.trans h
      obtain rfl := rt1 h
      exact hret _ _ dX6_placeInitial_74
    · replace h := (if_pos c7).symm.trans h
      refine s_aload_n hX dX6_placeInitial_51 rfl ?_
      refine s_getR (r := 110) hX fo_RX6_15_5 SH_107 rfl dX6_placeInitial_52 ?_
      refine s_aload_n hX dX6_placeInitial_55 rfl ?_
      refine s_getR (r := 97) hX fo_RX6_24_5 SH_107 rfl dX6_placeInitial_56 ?_
      refine s_getR (r := 100) hX fo_RX6_69_4 SH_97 rfl dX6_placeInitial_59 ?_
      refine s_iload_n hX dX6_placeInitial_62 rfl ?_
      obtain ⟨c3, h⟩ := gd_some h
      refine s_iald hX SH_100 c3 dX6_placeInitial_63 ?_
      refine s_aload_n hX dX6_placeInitial_64 rfl ?_
      refine s_getR (r := 1) hX fo_RX6_60_5 SH_107 rfl dX6_placeInitial_65 ?_
      refine s_getR (r := 3) hX fo_RX6_64_6 SH_1 rfl dX6_placeInitial_68 ?_
      refine s_iload_n hX dX6_placeInitial_71 rfl ?_
      obtain ⟨c4, h⟩ := gd_some h
      refine s_iald hX SH_3 c4 dX6_placeInitial_72 ?_
      obtain ⟨c5, h⟩ := gd_some h
      obtain ⟨σ6, eσ6, h⟩ := bd_some h
      refine s_iast hX SH_110 c5 dX6_placeInitial_73 ?_
      refine s_mem σ6 eσ6 ?_
      obtain rfl := rt1 h
      exact hret _ _ dX6_placeInitial_74
  · replace h := (if_pos c12).symm.trans h
    refine s_aload_n hX dX6_placeInitial_12 rfl ?_
    refine s_getR (r := 109) hX fo_RX6_9_5 SH_107 rfl dX6_placeInitial_13 ?_
    refine s_aload_n hX dX6_placeInitial_16 rfl ?_
    refine s_getR (r := 97) hX fo_RX6_24_5 SH_107 rfl dX6_placeInitial_17 ?_
    refine s_getR (r := 99) hX fo_RX6_57_4 SH_97 rfl dX6_placeInitial_20 ?_
    refine s_iload_n hX dX6_placeInitial_23 rfl ?_
    obtain ⟨c8, h⟩ := gd_some h
    refine s_iald hX SH_99 c8 dX6_placeInitial_24 ?_
    refine s_aload_n hX dX6_placeInitial_25 rfl ?_
    refine s_getR (r := 1) hX fo_RX6_60_5 SH_107 rfl dX6_placeInitial_26 ?_
    refine s_getR (r := 3) hX fo_RX6_64_6 SH_1 rfl dX6_placeInitial_29 ?_
    refine s_iload_n hX dX6_placeInitial_32 rfl ?_
    obtain ⟨c9, h⟩ := gd_some h
    refine s_iald hX SH_3 c9 dX6_placeInitial_33 ?_
    obtain ⟨c10, h⟩ := gd_some h
    obtain ⟨σ11, eσ11, h⟩ := bd_some h
    refine s_iast hX SH_109 c10 dX6_placeInitial_34 ?_
    refine s_mem σ11 eσ11 ?_
    refine s_goto (tgt := 74) hX dX6_placeInitial_35 (by decide) ?_
    obtain rfl := rt1 h
    exact hret _ _ dX6_placeInitial_74
def gX6_prepare_30 (l1 : Int32) (rec : Mm × Int32 → Option (Mm)) (σ : Mm) (x2 : Int32) : Option (Mm) :=
  if 12 ≤ x2 then
  some σ
else
  (fX9_has σ l1 x2).bind fun r1 =>
  if r1 = 0 then
  bd (x2 + 1) fun v2 =>
  rec (σ, v2)
else
  (fX6_placeInitial σ x2).bind fun σ3 =>
  bd (x2 + 1) fun v4 =>
  rec (σ3, v4)
def qX6_prepare_30 (l1 : Int32) : Nat → Mm × Int32 → Option (Mm) := lp (fun rec s => gX6_prepare_30 l1 rec s.1 s.2)
def fX6_prepare (σ : Mm) : Option Mm :=
  (fJ7_fill_53178 σ 109 12 0).bind fun σ1 =>
  (fJ7_fill_53178 σ1 110 12 0).bind fun σ2 =>
  (fX1_liveAtBeginning σ2 0).bind fun r3 =>
  (qX6_prepare_30 r3 FU (σ2, 0)).bind fun σ4 =>
  some σ4
set_option maxHeartbeats 4000000 in
theorem pX6_prepare_30 {X : sT} {cs : Nat × Nat} (hX : sX X cX6_prepare RX6 3 1 23) (hcs : cs.1 ≤ (sR X).cells ∧ cs.2 ≤ (sR X).slots) (l1 : Int32)  : ∀ (n : Nat) (s : Mm × Int32) (r : Mm), qX6_prepare_30 l1 n s = some r → sW X 3 cs r 55 [none, none, none] [] → sW X 3 cs s.1 30 [some (.ref (sad X 107)), some (.int l1), some (.int s.2)] [] := by
  refine lp_ind (P := fun (s : Mm × Int32) (r : Mm) => sW X 3 cs r 55 [none, none, none] [] → sW X 3 cs s.1 30 [some (.ref (sad X 107)), some (.int l1), some (.int s.2)] []) ?_
  intro rec hrec s r h0 hk
  obtain ⟨σ, x2⟩ := s
  have h : gX6_prepare_30 l1 rec σ x2 = some r := h0
  unfold gX6_prepare_30 at h
  show sW X 3 cs σ 30 [some (.ref (sad X 107)), some (.int l1), some (.int x2)] []
  refine s_iload_n hX dX6_prepare_30 rfl ?_
  refine s_bipush 12 hX dX6_prepare_31 (by decide) ?_
  refine s_ic_ge (tgt := 55) hX dX6_prepare_33 (by decide) (fun c6 => ?_) (fun c6 => ?_)
  · replace h := (if_pos c6).symm.trans h
    obtain rfl := rt1 h
    refine s_mask [false, false, false] ?_
    exact hk
  · replace h := (if_neg c6).symm.trans h
    refine s_iload_n hX dX6_prepare_36 rfl ?_
    refine s_iload_n hX dX6_prepare_37 rfl ?_
    obtain ⟨r1, hc, h⟩ := bn_some h
    refine s_callSI _ hX (cX9_has_ok (sl X)  hc) ms_RX6_46 (fun _ => rfl) (by decide) (Nat.le_of_ble_eq_true rfl) hcs dX6_prepare_38 rfl ?_
    refine s_if_eq (tgt := 49) hX dX6_prepare_41 (by decide) (fun c5 => ?_) (fun c5 => ?_)
    · replace h := (if_pos c5).symm.trans h
      obtain ⟨v2, ev2, h⟩ := bd_some h
      refine s_iinc v2 hX dX6_prepare_49 rfl (by rw [ev2]; rfl) (by decide) ?_
      refine s_goto (tgt := 30) hX dX6_prepare_52 (by decide) ?_
      refine s_mask [true, true, true] ?_
      exact hrec _ _ h hk
    · replace h := (if_neg c5).symm.trans h
      refine s_aload_n hX dX6_prepare_44 rfl ?_
      refine s_iload_n hX dX6_prepare_45 rfl ?_
      obtain ⟨σ3, hc, h⟩ := bn_some h
      refine s_callVV _ hX (cX6_placeInitial_ok (sl X)  hc) SH_107 mv_RX6_50_5 (fun _ => rfl) (by decide) (Nat.le_of_ble_eq_true rfl) hcs dX6_prepare_46 rfl ?_
      obtain ⟨v4, ev4, h⟩ := bd_some h
      refine s_iinc v4 hX dX6_prepare_49 rfl (by rw [ev4]; rfl) (by decide) ?_
      refine s_goto (tgt := 30) hX dX6_prepare_52 (by decide) ?_
      refine s_mask [true, true, true] ?_
      exact hrec _ _ h hk
set_option maxHeartbeats 4000000 in
theorem cX6_prepare_ok (l : Launch) {σ : Mm} {σ' : Mm}  (h : fX6_prepare σ = some σ') : cV l yX6_prepare cX6_prepare 3 1 23 (fun ad => [.ref (ad 107)]) σ σ' := by
  refine c_enterV (fun ad => [some (.ref (ad 107)), none, none]) (by decide) (fun ad => ⟨by simp [Value.category], Nat.le_of_ble_eq_true rfl⟩) (fun ad => ⟨2, rfl⟩) ?_
  intro X _ hX hret
  have hcs : ((0 : Nat), (0 : Nat)).1 ≤ (sR X).cells ∧ ((0 : Nat), (0 : Nat)).2 ≤ (sR X).slots := ⟨Nat.zero_le _, Nat.zero_le _⟩
  generalize hcs0 : ((0 : Nat), (0 : Nat)) = cs at hcs hret ⊢
  unfold fX6_prepare at h
  show sW X 3 cs σ 0 [some (.ref (sad X 107)), none, none] []
  refine s_aload_n hX dX6_prepare_0 rfl ?_
  refine s_getR (r := 109) hX fo_RX6_9_5 SH_107 rfl dX6_prepare_1 ?_
  refine s_iconst 0 hX dX6_prepare_4 (by decide) ?_
  obtain ⟨σ1, hc, h⟩ := bn_some h
  refine s_callSV _ hX (cJ7_fill_53178_ok (sl X) SH_109 hc) ms_RX6_28 (fun _ => rfl) (by decide) (Nat.le_of_ble_eq_true rfl) hcs dX6_prepare_5 rfl ?_
  refine s_aload_n hX dX6_prepare_8 rfl ?_
  refine s_getR (r := 110) hX fo_RX6_15_5 SH_107 rfl dX6_prepare_9 ?_
  refine s_iconst 0 hX dX6_prepare_12 (by decide) ?_
  obtain ⟨σ2, hc, h⟩ := bn_some h
  refine s_callSV _ hX (cJ7_fill_53178_ok (sl X) SH_110 hc) ms_RX6_28 (fun _ => rfl) (by decide) (Nat.le_of_ble_eq_true rfl) hcs dX6_prepare_13 rfl ?_
  refine s_aload_n hX dX6_prepare_16 rfl ?_
  refine s_getR (r := 97) hX fo_RX6_24_5 SH_107 rfl dX6_prepare_17 ?_
  refine s_getR (r := 87) hX fo_RX6_34_4 SH_97 rfl dX6_prepare_20 ?_
  refine s_iconst 0 hX dX6_prepare_23 (by decide) ?_
  obtain ⟨r3, hc, h⟩ := bn_some h
  refine s_callVI _ hX (cX1_liveAtBeginning_ok (sl X)  hc) SH_87 mv_RX6_40_1 (fun _ => rfl) (by decide) (Nat.le_of_ble_eq_true rfl) hcs dX6_prepare_24 rfl ?_
  refine s_istore_n hX dX6_prepare_27 (by decide) ?_
  refine s_iconst 0 hX dX6_prepare_28 (by decide) ?_
  refine s_istore_n hX dX6_prepare_29 (by decide) ?_
  obtain ⟨σ4, hc, h⟩ := bn_some h
  refine s_mask [true, true, true] ?_
  refine pX6_prepare_30 hX hcs _ _ _ _ hc ?_
  obtain rfl := rt1 h
  exact hret _ _ dX6_prepare_55
def gX6_loadPromoted_15 (l1 : Int32) (l3 : Int32) (rec : Mm × Int32 → Option (Mm)) (σ : Mm) (x4 : Int32) : Option (Mm) :=
  if 12 ≤ x4 then
  some σ
else
  gd ((l1 * 12) + x4) 96 <|
  bd (σ 101 ((l1 * 12) + x4).toNatClampNeg) fun v2 =>
  if v2 = (-1) then
  bd (x4 + 1) fun v3 =>
  rec (σ, v3)
else
  (fX9_has σ l3 x4).bind fun r4 =>
  if r4 = 0 then
  bd (x4 + 1) fun v5 =>
  rec (σ, v5)
else
  gd x4 12 <|
  gd (σ 100 x4.toNatClampNeg) 12 <|
  gd v2 12 <|
  bd (upm σ 109 (upd (σ 109) v2.toNatClampNeg (σ 110 (σ 100 x4.toNatClampNeg).toNatClampNeg))) fun σ9 =>
  bd (upm σ9 107 (upd (σ9 107) 4 ((σ9 107 4) + 1))) fun σ10 =>
  bd (x4 + 1) fun v11 =>
  rec (σ10, v11)
def qX6_loadPromoted_15 (l1 : Int32) (l3 : Int32) : Nat → Mm × Int32 → Option (Mm) := lp (fun rec s => gX6_loadPromoted_15 l1 l3 rec s.1 s.2)
def fX6_loadPromoted (σ : Mm) (l1 : Int32) (l2 : Int32) : Option Mm :=
  (fX1_liveAtBeginning σ l2).bind fun r1 =>
  (qX6_loadPromoted_15 l1 r1 FU (σ, 0)).bind fun σ2 =>
  some σ2
set_option maxHeartbeats 4000000 in
theorem pX6_loadPromoted_15 {X : sT} {cs : Nat × Nat} (hX : sX X cX6_loadPromoted RX6 6 1 21) (hcs : cs.1 ≤ (sR X).cells ∧ cs.2 ≤ (sR X).slots) (l1 : Int32) (l3 : Int32)  : ∀ (n : Nat) (s : Mm × Int32) (r : Mm), qX6_loadPromoted_15 l1 l3 n s = some r → sW X 6 cs r 92 [none, none, none, none, none, none] [] → sW X 6 cs s.1 15 [some (.ref (sad X 107)), some (.int l1), none, some (.int l3), some (.int s.2), none] [] := by
  refine lp_ind (P := fun (s : Mm × Int32) (r : Mm) => sW X 6 cs r 92 [none, none, none, none, none, none] [] → sW X 6 cs s.1 15 [some (.ref (sad X 107)), some (.int l1), none, some (.int l3), some (.int s.2), none] []) ?_
  intro rec hrec s r h0 hk
  obtain ⟨σ, x4⟩ := s
  have h : gX6_loadPromoted_15 l1 l3 rec σ x4 = some r := h0
  unfold gX6_loadPromoted_15 at h
  show sW X 6 cs σ 15 [some (.ref (sad X 107)), some (.int l1), none, some (.int l3), some (.int x4), none] []
  refine s_iload hX dX6_loadPromoted_15 rfl ?_
  refine s_bipush 12 hX dX6_loadPromoted_17 (by decide) ?_
  refine s_ic_ge (tgt := 92) hX dX6_loadPromoted_19 (by decide) (fun c14 => ?_) (fun c14 => ?_)
  · replace h := (if_pos c14).symm.trans h
    obtain rfl := rt1 h
    refine s_mask [false, false, false, false, false, false] ?_
    exact hk
  · replace h := (if_neg c14).symm.trans h
    refine s_aload_n hX dX6_loadPromoted_22 rfl ?_
    refine s_getR (r := 97) hX fo_RX6_24_5 SH_107 rfl dX6_loadPromoted_23 ?_
    refine s_getR (r := 101) hX fo_RX6_101_4 SH_97 rfl dX6_loadPromoted_26 ?_
    refine s_iload_n hX dX6_loadPromoted_29 rfl ?_
    refine s_bipush 12 hX dX6_loadPromoted_30 (by decide) ?_
    refine s_imul hX dX6_loadPromoted_32 ?_
    refine s_iload hX dX6_loadPromoted_33 rfl ?_
    refine s_iadd hX dX6_loadPromoted_35 ?_
    obtain ⟨c1, h⟩ := gd_some h
    refine s_iald hX SH_101 c1 dX6_loadPromoted_36 ?_
    obtain ⟨v2, ev2, h⟩ := bd_some h
    refine s_topi v2 ev2 ?_
    refine s_istore hX dX6_loadPromoted_37 (by decide) ?_
    refine s_iload hX dX6_loadPromoted_39 rfl ?_
    refine s_iconst (-1) hX dX6_loadPromoted_41 (by decide) ?_
    refine s_ic_eq (tgt := 86) hX dX6_loadPromoted_42 (by decide) (fun c13 => ?_) (fun c13 => ?_)
    · replace h := (if_pos c13).symm.trans h
      obtain ⟨v3, ev3, h⟩ := bd_some h
      refine s_iinc v3 hX dX6_loadPromoted_86 rfl (by rw [ev3]; rfl) (by decide) ?_
      refine s_goto (tgt := 15) hX dX6_loadPromoted_89 (by decide) ?_
      refine s_mask [true, true, false, true, true, false] ?_
      exact hrec _ _ h hk
    · replace h := (if_neg c13).symm.trans h
      refine s_iload_n hX dX6_loadPromoted_45 rfl ?_
      refine s_iload hX dX6_loadPromoted_46 rfl ?_
      obtain ⟨r4, hc, h⟩ := bn_some h
      refine s_callSI _ hX (cX9_has_ok (sl X)  hc) ms_RX6_46 (fun _ => rfl) (by decide) (Nat.le_of_ble_eq_true rfl) hcs dX6_loadPromoted_48 rfl ?_
      refine s_if_eq (tgt := 86) hX dX6_loadPromoted_51 (by decide) (fun c12 => ?_) (fun c12 => ?_)
      · replace h := (if_pos c12).symm.trans h
        obtain ⟨v5, ev5, h⟩ := bd_some h
        refine s_iinc v5 hX dX6_loadPromoted_86 rfl (by rw [ev5]; rfl) (by decide) ?_
        refine s_goto (tgt := 15) hX dX6_loadPromoted_89 (by decide) ?_
        refine s_mask [true, true, false, true, true, false] ?_
        exact hrec _ _ h hk
      · replace h := (if_neg c12).symm.trans h
        refine s_aload_n hX dX6_loadPromoted_54 rfl ?_
        refine s_getR (r := 109) hX fo_RX6_9_5 SH_107 rfl dX6_loadPromoted_55 ?_
        refine s_iload hX dX6_loadPromoted_58 rfl ?_
        refine s_aload_n hX dX6_loadPromoted_60 rfl ?_
        refine s_getR (r := 110) hX fo_RX6_15_5 SH_107 rfl dX6_loadPromoted_61 ?_
        refine s_aload_n hX dX6_loadPromoted_64 rfl ?_
        refine s_getR (r := 97) hX fo_RX6_24_5 SH_107 rfl dX6_loadPromoted_65 ?_
        refine s_getR (r := 100) hX fo_RX6_69_4 SH_97 rfl dX6_loadPromoted_68 ?_
        refine s_iload hX dX6_loadPromoted_71 rfl ?_
        obtain ⟨c6, h⟩ := gd_some h
        refine s_iald hX SH_100 c6 dX6_loadPromoted_73 ?_
        obtain ⟨c7, h⟩ := gd_some h
        refine s_iald hX SH_110 c7 dX6_loadPromoted_74 ?_
        obtain ⟨c8, h⟩ := gd_some h
        obtain ⟨σ9, eσ9, h⟩ := bd_some h
        refine s_iast hX SH_109 c8 dX6_loadPromoted_75 ?_
        refine s_mem σ9 eσ9 ?_
        refine s_aload_n hX dX6_loadPromoted_76 rfl ?_
        refine s_dup hX dX6_loadPromoted_77 rfl ?_
        refine s_getI hX fo_RX6_107_5 SH_107 rfl dX6_loadPromoted_78 ?_
        refine s_iconst 1 hX dX6_loadPromoted_81 (by decide) ?_
        refine s_iadd hX dX6_loadPromoted_82 ?_
        obtain ⟨σ10, eσ10, h⟩ := bd_some h
        refine s_putI hX fo_RX6_107_5 SH_107 rfl dX6_loadPromoted_83 ?_
        refine s_mem σ10 eσ10 ?_
        obtain ⟨v11, ev11, h⟩ := bd_some h
        refine s_iinc v11 hX dX6_loadPromoted_86 rfl (by rw [ev11]; rfl) (by decide) ?_
        refine s_goto (tgt := 15) hX dX6_loadPromoted_89 (by decide) ?_
        refine s_mask [true, true, false, true, true, false] ?_
        exact hrec _ _ h hk
set_option maxHeartbeats 4000000 in
theorem cX6_loadPromoted_ok (l : Launch) {σ : Mm} {l1 : Int32} {l2 : Int32} {σ' : Mm}  (h : fX6_loadPromoted σ l1 l2 = some σ') : cV l yX6_loadPromoted cX6_loadPromoted 6 1 21 (fun ad => [.ref (ad 107), .int l1, .int l2]) σ σ' := by
  refine c_enterV (fun ad => [some (.ref (ad 107)), some (.int l1), some (.int l2), none, none, none]) (by decide) (fun ad => ⟨by simp [Value.category], Nat.le_of_ble_eq_true rfl⟩) (fun ad => ⟨3, rfl⟩) ?_
  intro X _ hX hret
  have hcs : ((0 : Nat), (0 : Nat)).1 ≤ (sR X).cells ∧ ((0 : Nat), (0 : Nat)).2 ≤ (sR X).slots := ⟨Nat.zero_le _, Nat.zero_le _⟩
  generalize hcs0 : ((0 : Nat), (0 : Nat)) = cs at hcs hret ⊢
  unfold fX6_loadPromoted at h
  show sW X 6 cs σ 0 [some (.ref (sad X 107)), some (.int l1), some (.int l2), none, none, none] []
  refine s_aload_n hX dX6_loadPromoted_0 rfl ?_
  refine s_getR (r := 97) hX fo_RX6_24_5 SH_107 rfl dX6_loadPromoted_1 ?_
  refine s_getR (r := 87) hX fo_RX6_34_4 SH_97 rfl dX6_loadPromoted_4 ?_
  refine s_iload_n hX dX6_loadPromoted_7 rfl ?_
  obtain ⟨r1, hc, h⟩ := bn_some h
  refine s_callVI _ hX (cX1_liveAtBeginning_ok (sl X)  hc) SH_87 mv_RX6_40_1 (fun _ => rfl) (by decide) (Nat.le_of_ble_eq_true rfl) hcs dX6_loadPromoted_8 rfl ?_
  refine s_istore_n hX dX6_loadPromoted_11 (by decide) ?_
  refine s_iconst 0 hX dX6_loadPromoted_12 (by decide) ?_
  refine s_istore hX dX6_loadPromoted_13 (by decide) ?_
  obtain ⟨σ2, hc, h⟩ := bn_some h
  refine s_mask [true, true, false, true, true, false] ?_
  refine pX6_loadPromoted_15 hX hcs _ _ _ _ _ hc ?_
  obtain rfl := rt1 h
  exact hret _ _ dX6_loadPromoted_92
def gX6_storePromoted_25 (l1 : Int32) (l3 : Int32) (rec : Mm × Int32 → Option (Mm)) (σ : Mm) (x4 : Int32) : Option (Mm) :=
  if 12 ≤ x4 then
  some σ
else
  gd ((l1 * 12) + x4) 96 <|
  bd (σ 101 ((l1 * 12) + x4).toNatClampNeg) fun v2 =>
  if v2 = (-1) then
  bd (x4 + 1) fun v3 =>
  rec (σ, v3)
else
  (fX9_has σ l3 x4).bind fun r4 =>
  if r4 = 0 then
  bd (x4 + 1) fun v5 =>
  rec (σ, v5)
else
  gd x4 12 <|
  gd v2 12 <|
  gd (σ 100 x4.toNatClampNeg) 12 <|
  bd (upm σ 110 (upd (σ 110) (σ 100 x4.toNatClampNeg).toNatClampNeg (σ 109 v2.toNatClampNeg))) fun σ9 =>
  bd (upm σ9 107 (upd (σ9 107) 5 ((σ9 107 5) + 1))) fun σ10 =>
  bd (x4 + 1) fun v11 =>
  rec (σ10, v11)
def qX6_storePromoted_25 (l1 : Int32) (l3 : Int32) : Nat → Mm × Int32 → Option (Mm) := lp (fun rec s => gX6_storePromoted_25 l1 l3 rec s.1 s.2)
def fX6_storePromoted (σ : Mm) (l1 : Int32) (l2 : Int32) : Option Mm :=
  (fX1_liveAtBeginning σ l2).bind fun r1 =>
  gd l1 8 <|
  bd (r1 &&& (σ 103 l1.toNatClampNeg)) fun v3 =>
  (qX6_storePromoted_25 l1 v3 FU (σ, 0)).bind fun σ4 =>
  some σ4
set_option maxHeartbeats 4000000 in
theorem pX6_storePromoted_25 {X : sT} {cs : Nat × Nat} (hX : sX X cX6_storePromoted RX6 6 1 21) (hcs : cs.1 ≤ (sR X).cells ∧ cs.2 ≤ (sR X).slots) (l1 : Int32) (l3 : Int32)  : ∀ (n : Nat) (s : Mm × Int32) (r : Mm), qX6_storePromoted_25 l1 l3 n s = some r → sW X 6 cs r 102 [none, none, none, none, none, none] [] → sW X 6 cs s.1 25 [some (.ref (sad X 107)), some (.int l1), none, some (.int l3), some (.int s.2), none] [] := by
  refine lp_ind (P := fun (s : Mm × Int32) (r : Mm) => sW X 6 cs r 102 [none, none, none, none, none, none] [] → sW X 6 cs s.1 25 [some (.ref (sad X 107)), some (.int l1), none, some (.int l3), some (.int s.2), none] []) ?_
  intro rec hrec s r h0 hk
  obtain ⟨σ, x4⟩ := s
  have h : gX6_storePromoted_25 l1 l3 rec σ x4 = some r := h0
  unfold gX6_storePromoted_25 at h
  show sW X 6 cs σ 25 [some (.ref (sad X 107)), some (.int l1), none, some (.int l3), some (.int x4), none] []
  refine s_iload hX dX6_storePromoted_25 rfl ?_
  refine s_bipush 12 hX dX6_storePromoted_27 (by decide) ?_
  refine s_ic_ge (tgt := 102) hX dX6_storePromoted_29 (by decide) (fun c14 => ?_) (fun c14 => ?_)
  · replace h := (if_pos c14).symm.trans h
    obtain rfl := rt1 h
    refine s_mask [false, false, false, false, false, false] ?_
    exact hk
  · replace h := (if_neg c14).symm.trans h
    refine s_aload_n hX dX6_storePromoted_32 rfl ?_
    refine s_getR (r := 97) hX fo_RX6_24_5 SH_107 rfl dX6_storePromoted_33 ?_
    refine s_getR (r := 101) hX fo_RX6_101_4 SH_97 rfl dX6_storePromoted_36 ?_
    refine s_iload_n hX dX6_storePromoted_39 rfl ?_
    refine s_bipush 12 hX dX6_storePromoted_40 (by decide) ?_
    refine s_imul hX dX6_storePromoted_42 ?_
    refine s_iload hX dX6_storePromoted_43 rfl ?_
    refine s_iadd hX dX6_storePromoted_45 ?_
    obtain ⟨c1, h⟩ := gd_some h
    refine s_iald hX SH_101 c1 dX6_storePromoted_46 ?_
    obtain ⟨v2, ev2, h⟩ := bd_some h
    refine s_topi v2 ev2 ?_
    refine s_istore hX dX6_storePromoted_47 (by decide) ?_
    refine s_iload hX dX6_storePromoted_49 rfl ?_
    refine s_iconst (-1) hX dX6_storePromoted_51 (by decide) ?_
    refine s_ic_eq (tgt := 96) hX dX6_storePromoted_52 (by decide) (fun c13 => ?_) (fun c13 => ?_)
    · replace h := (if_pos c13).symm.trans h
      obtain ⟨v3, ev3, h⟩ := bd_some h
      refine s_iinc v3 hX dX6_storePromoted_96 rfl (by rw [ev3]; rfl) (by decide) ?_
      refine s_goto (tgt := 25) hX dX6_storePromoted_99 (by decide) ?_
      refine s_mask [true, true, false, true, true, false] ?_
      exact hrec _ _ h hk
    · replace h := (if_neg c13).symm.trans h
      refine s_iload_n hX dX6_storePromoted_55 rfl ?_
      refine s_iload hX dX6_storePromoted_56 rfl ?_
      obtain ⟨r4, hc, h⟩ := bn_some h
      refine s_callSI _ hX (cX9_has_ok (sl X)  hc) ms_RX6_46 (fun _ => rfl) (by decide) (Nat.le_of_ble_eq_true rfl) hcs dX6_storePromoted_58 rfl ?_
      refine s_if_eq (tgt := 96) hX dX6_storePromoted_61 (by decide) (fun c12 => ?_) (fun c12 => ?_)
      · replace h := (if_pos c12).symm.trans h
        obtain ⟨v5, ev5, h⟩ := bd_some h
        refine s_iinc v5 hX dX6_storePromoted_96 rfl (by rw [ev5]; rfl) (by decide) ?_
        refine s_goto (tgt := 25) hX dX6_storePromoted_99 (by decide) ?_
        refine s_mask [true, true, false, true, true, false] ?_
        exact hrec _ _ h hk
      · replace h := (if_neg c12).symm.trans h
        refine s_aload_n hX dX6_storePromoted_64 rfl ?_
        refine s_getR (r := 110) hX fo_RX6_15_5 SH_107 rfl dX6_storePromoted_65 ?_
        refine s_aload_n hX dX6_storePromoted_68 rfl ?_
        refine s_getR (r := 97) hX fo_RX6_24_5 SH_107 rfl dX6_storePromoted_69 ?_
        refine s_getR (r := 100) hX fo_RX6_69_4 SH_97 rfl dX6_storePromoted_72 ?_
        refine s_iload hX dX6_storePromoted_75 rfl ?_
        obtain ⟨c6, h⟩ := gd_some h
        refine s_iald hX SH_100 c6 dX6_storePromoted_77 ?_
        refine s_aload_n hX dX6_storePromoted_78 rfl ?_
        refine s_getR (r := 109) hX fo_RX6_9_5 SH_107 rfl dX6_storePromoted_79 ?_
        refine s_iload hX dX6_storePromoted_82 rfl ?_
        obtain ⟨c7, h⟩ := gd_some h
        refine s_iald hX SH_109 c7 dX6_storePromoted_84 ?_
        obtain ⟨c8, h⟩ := gd_some h
        obtain ⟨σ9, eσ9, h⟩ := bd_some h
        refine s_iast hX SH_110 c8 dX6_storePromoted_85 ?_
        refine s_mem σ9 eσ9 ?_
        refine s_aload_n hX dX6_storePromoted_86 rfl ?_
        refine s_dup hX dX6_storePromoted_87 rfl ?_
        refine s_getI hX fo_RX6_104_5 SH_107 rfl dX6_storePromoted_88 ?_
        refine s_iconst 1 hX dX6_storePromoted_91 (by decide) ?_
        refine s_iadd hX dX6_storePromoted_92 ?_
        obtain ⟨σ10, eσ10, h⟩ := bd_some h
        refine s_putI hX fo_RX6_104_5 SH_107 rfl dX6_storePromoted_93 ?_
        refine s_mem σ10 eσ10 ?_
        obtain ⟨v11, ev11, h⟩ := bd_some h
        refine s_iinc v11 hX dX6_storePromoted_96 rfl (by rw [ev11]; rfl) (by decide) ?_
        refine s_goto (tgt := 25) hX dX6_storePromoted_99 (by decide) ?_
        refine s_mask [true, true, false, true, true, false] ?_
        exact hrec _ _ h hk
set_option maxHeartbeats 4000000 in
theorem cX6_storePromoted_ok (l : Launch) {σ : Mm} {l1 : Int32} {l2 : Int32} {σ' : Mm}  (h : fX6_storePromoted σ l1 l2 = some σ') : cV l yX6_storePromoted cX6_storePromoted 6 1 21 (fun ad => [.ref (ad 107), .int l1, .int l2]) σ σ' := by
  refine c_enterV (fun ad => [some (.ref (ad 107)), some (.int l1), some (.int l2), none, none, none]) (by decide) (fun ad => ⟨by simp [Value.category], Nat.le_of_ble_eq_true rfl⟩) (fun ad => ⟨3, rfl⟩) ?_
  intro X _ hX hret
  have hcs : ((0 : Nat), (0 : Nat)).1 ≤ (sR X).cells ∧ ((0 : Nat), (0 : Nat)).2 ≤ (sR X).slots := ⟨Nat.zero_le _, Nat.zero_le _⟩
  generalize hcs0 : ((0 : Nat), (0 : Nat)) = cs at hcs hret ⊢
  unfold fX6_storePromoted at h
  show sW X 6 cs σ 0 [some (.ref (sad X 107)), some (.int l1), some (.int l2), none, none, none] []
  refine s_aload_n hX dX6_storePromoted_0 rfl ?_
  refine s_getR (r := 97) hX fo_RX6_24_5 SH_107 rfl dX6_storePromoted_1 ?_
  refine s_getR (r := 87) hX fo_RX6_34_4 SH_97 rfl dX6_storePromoted_4 ?_
  refine s_iload_n hX dX6_storePromoted_7 rfl ?_
  obtain ⟨r1, hc, h⟩ := bn_some h
  refine s_callVI _ hX (cX1_liveAtBeginning_ok (sl X)  hc) SH_87 mv_RX6_40_1 (fun _ => rfl) (by decide) (Nat.le_of_ble_eq_true rfl) hcs dX6_storePromoted_8 rfl ?_
  refine s_aload_n hX dX6_storePromoted_11 rfl ?_
  refine s_getR (r := 97) hX fo_RX6_24_5 SH_107 rfl dX6_storePromoted_12 ?_
  refine s_getR (r := 103) hX fo_RX6_98_4 SH_97 rfl dX6_storePromoted_15 ?_
  refine s_iload_n hX dX6_storePromoted_18 rfl ?_
  obtain ⟨c2, h⟩ := gd_some h
  refine s_iald hX SH_103 c2 dX6_storePromoted_19 ?_
  refine s_iand hX dX6_storePromoted_20 ?_
  obtain ⟨v3, ev3, h⟩ := bd_some h
  refine s_topi v3 ev3 ?_
  refine s_istore_n hX dX6_storePromoted_21 (by decide) ?_
  refine s_iconst 0 hX dX6_storePromoted_22 (by decide) ?_
  refine s_istore hX dX6_storePromoted_23 (by decide) ?_
  obtain ⟨σ4, hc, h⟩ := bn_some h
  refine s_mask [true, true, false, true, true, false] ?_
  refine pX6_storePromoted_25 hX hcs _ _ _ _ _ hc ?_
  obtain rfl := rt1 h
  exact hret _ _ dX6_storePromoted_102
def gX6_enter_2 (l1 : Int32) (l2 : Int32) (rec : Mm × Int32 → Option (Mm)) (σ : Mm) (x3 : Int32) : Option (Mm) :=
  if (σ 94 3) ≤ x3 then
  some σ
else
  (fX2_contains σ x3 l1).bind fun r1 =>
  if r1 = 0 then
  bd (x3 + 1) fun v2 =>
  rec (σ, v2)
else
  (fX2_contains σ x3 l2).bind fun r3 =>
  if r3 = 0 then
  (fX6_storePromoted σ x3 l2).bind fun σ5 =>
  bd (x3 + 1) fun v6 =>
  rec (σ5, v6)
else
  bd (x3 + 1) fun v4 =>
  rec (σ, v4)
def qX6_enter_2 (l1 : Int32) (l2 : Int32) : Nat → Mm × Int32 → Option (Mm) := lp (fun rec s => gX6_enter_2 l1 l2 rec s.1 s.2)
def gX6_enter_60 (l1 : Int32) (l2 : Int32) (rec : Mm × Int32 → Option (Mm)) (σ : Mm) (x3 : Int32) : Option (Mm) :=
  if (σ 94 3) ≤ x3 then
  some σ
else
  gd x3 8 <|
  if (σ 95 x3.toNatClampNeg) = l2 then
  (fX2_contains σ x3 l1).bind fun r3 =>
  if r3 = 0 then
  (fX6_loadPromoted σ x3 l2).bind fun σ5 =>
  bd (x3 + 1) fun v6 =>
  rec (σ5, v6)
else
  bd (x3 + 1) fun v4 =>
  rec (σ, v4)
else
  bd (x3 + 1) fun v2 =>
  rec (σ, v2)
def qX6_enter_60 (l1 : Int32) (l2 : Int32) : Nat → Mm × Int32 → Option (Mm) := lp (fun rec s => gX6_enter_60 l1 l2 rec s.1 s.2)
def fX6_enter (σ : Mm) (l1 : Int32) (l2 : Int32) : Option Mm :=
  (qX6_enter_2 l1 l2 FU (σ, 0)).bind fun σ1 =>
  (qX6_enter_60 l1 l2 FU (σ1, 0)).bind fun σ2 =>
  gd 0 2 <|
  bd (upm σ2 112 (upd (σ2 112) (Int32.toNatClampNeg 0) (-1))) fun σ4 =>
  gd 1 2 <|
  bd (upm σ4 112 (upd (σ4 112) (Int32.toNatClampNeg 1) (-1))) fun σ6 =>
  bd (upm σ6 107 (upd (σ6 107) 13 1)) fun σ7 =>
  some σ7
set_option maxHeartbeats 4000000 in
theorem pX6_enter_2 {X : sT} {cs : Nat × Nat} (hX : sX X cX6_enter RX6 4 2 46) (hcs : cs.1 ≤ (sR X).cells ∧ cs.2 ≤ (sR X).slots) (l1 : Int32) (l2 : Int32)  : ∀ (n : Nat) (s : Mm × Int32) (r : Mm), qX6_enter_2 l1 l2 n s = some r → sW X 4 cs r 58 [some (.ref (sad X 107)), some (.int l1), some (.int l2), none] [] → sW X 4 cs s.1 2 [some (.ref (sad X 107)), some (.int l1), some (.int l2), some (.int s.2)] [] := by
  refine lp_ind (P := fun (s : Mm × Int32) (r : Mm) => sW X 4 cs r 58 [some (.ref (sad X 107)), some (.int l1), some (.int l2), none] [] → sW X 4 cs s.1 2 [some (.ref (sad X 107)), some (.int l1), some (.int l2), some (.int s.2)] []) ?_
  intro rec hrec s r h0 hk
  obtain ⟨σ, x3⟩ := s
  have h : gX6_enter_2 l1 l2 rec σ x3 = some r := h0
  unfold gX6_enter_2 at h
  show sW X 4 cs σ 2 [some (.ref (sad X 107)), some (.int l1), some (.int l2), some (.int x3)] []
  refine s_iload_n hX dX6_enter_2 rfl ?_
  refine s_aload_n hX dX6_enter_3 rfl ?_
  refine s_getR (r := 97) hX fo_RX6_24_5 SH_107 rfl dX6_enter_4 ?_
  refine s_getR (r := 94) hX fo_RX6_72_4 SH_97 rfl dX6_enter_7 ?_
  refine s_getI hX fo_RX6_76_2 SH_94 rfl dX6_enter_10 ?_
  refine s_ic_ge (tgt := 58) hX dX6_enter_13 (by decide) (fun c9 => ?_) (fun c9 => ?_)
  · replace h := (if_pos c9).symm.trans h
    obtain rfl := rt1 h
    refine s_mask [true, true, true, false] ?_
    exact hk
  · replace h := (if_neg c9).symm.trans h
    refine s_aload_n hX dX6_enter_16 rfl ?_
    refine s_getR (r := 97) hX fo_RX6_24_5 SH_107 rfl dX6_enter_17 ?_
    refine s_getR (r := 94) hX fo_RX6_72_4 SH_97 rfl dX6_enter_20 ?_
    refine s_iload_n hX dX6_enter_23 rfl ?_
    refine s_iload_n hX dX6_enter_24 rfl ?_
    obtain ⟨r1, hc, h⟩ := bn_some h
    refine s_callVI _ hX (cX2_contains_ok (sl X)  hc) SH_94 mv_RX6_82_2 (fun _ => rfl) (by decide) (Nat.le_of_ble_eq_true rfl) hcs dX6_enter_25 rfl ?_
    refine s_if_eq (tgt := 52) hX dX6_enter_28 (by decide) (fun c8 => ?_) (fun c8 => ?_)
    · replace h := (if_pos c8).symm.trans h
      obtain ⟨v2, ev2, h⟩ := bd_some h
      refine s_iinc v2 hX dX6_enter_52 rfl (by rw [ev2]; rfl) (by decide) ?_
      refine s_goto (tgt := 2) hX dX6_enter_55 (by decide) ?_
      refine s_mask [true, true, true, true] ?_
      exact hrec _ _ h hk
    · replace h := (if_neg c8).symm.trans h
      refine s_aload_n hX dX6_enter_31 rfl ?_
      refine s_getR (r := 97) hX fo_RX6_24_5 SH_107 rfl dX6_enter_32 ?_
      refine s_getR (r := 94) hX fo_RX6_72_4 SH_97 rfl dX6_enter_35 ?_
      refine s_iload_n hX dX6_enter_38 rfl ?_
      refine s_iload_n hX dX6_enter_39 rfl ?_
      obtain ⟨r3, hc, h⟩ := bn_some h
      refine s_callVI _ hX (cX2_contains_ok (sl X)  hc) SH_94 mv_RX6_82_2 (fun _ => rfl) (by decide) (Nat.le_of_ble_eq_true rfl) hcs dX6_enter_40 rfl ?_
      refine s_if_ne (tgt := 52) hX dX6_enter_43 (by decide) (fun c7 => ?_) (fun c7 => ?_)
      · replace h := (if_neg c7).symm.trans h
        obtain ⟨v4, ev4, h⟩ := bd_some h
        refine s_iinc v4 hX dX6_enter_52 rfl (by rw [ev4]; rfl) (by decide) ?_
        refine s_goto (tgt := 2) hX dX6_enter_55 (by decide) ?_
        refine s_mask [true, true, true, true] ?_
        exact hrec _ _ h hk
      · replace h := (if_pos c7).symm.trans h
        refine s_aload_n hX dX6_enter_46 rfl ?_
        refine s_iload_n hX dX6_enter_47 rfl ?_
        refine s_iload_n hX dX6_enter_48 rfl ?_
        obtain ⟨σ5, hc, h⟩ := bn_some h
        refine s_callVV _ hX (cX6_storePromoted_ok (sl X)  hc) SH_107 mv_RX6_85_5 (fun _ => rfl) (by decide) (Nat.le_of_ble_eq_true rfl) hcs dX6_enter_49 rfl ?_
        obtain ⟨v6, ev6, h⟩ := bd_some h
        refine s_iinc v6 hX dX6_enter_52 rfl (by rw [ev6]; rfl) (by decide) ?_
        refine s_goto (tgt := 2) hX dX6_enter_55 (by decide) ?_
        refine s_mask [true, true, true, true] ?_
        exact hrec _ _ h hk
set_option maxHeartbeats 4000000 in
theorem pX6_enter_60 {X : sT} {cs : Nat × Nat} (hX : sX X cX6_enter RX6 4 2 46) (hcs : cs.1 ≤ (sR X).cells ∧ cs.2 ≤ (sR X).slots) (l1 : Int32) (l2 : Int32)  : ∀ (n : Nat) (s : Mm × Int32) (r : Mm), qX6_enter_60 l1 l2 n s = some r → sW X 4 cs r 117 [some (.ref (sad X 107)), none, none, none] [] → sW X 4 cs s.1 60 [some (.ref (sad X 107)), some (.int l1), some (.int l2), some (.int s.2)] [] := by
  refine lp_ind (P := fun (s : Mm × Int32) (r : Mm) => sW X 4 cs r 117 [some (.ref (sad X 107)), none, none, none] [] → sW X 4 cs s.1 60 [some (.ref (sad X 107)), some (.int l1), some (.int l2), some (.int s.2)] []) ?_
  intro rec hrec s r h0 hk
  obtain ⟨σ, x3⟩ := s
  have h : gX6_enter_60 l1 l2 rec σ x3 = some r := h0
  unfold gX6_enter_60 at h
  show sW X 4 cs σ 60 [some (.ref (sad X 107)), some (.int l1), some (.int l2), some (.int x3)] []
  refine s_iload_n hX dX6_enter_60 rfl ?_
  refine s_aload_n hX dX6_enter_61 rfl ?_
  refine s_getR (r := 97) hX fo_RX6_24_5 SH_107 rfl dX6_enter_62 ?_
  refine s_getR (r := 94) hX fo_RX6_72_4 SH_97 rfl dX6_enter_65 ?_
  refine s_getI hX fo_RX6_76_2 SH_94 rfl dX6_enter_68 ?_
  refine s_ic_ge (tgt := 117) hX dX6_enter_71 (by decide) (fun c9 => ?_) (fun c9 => ?_)
  · replace h := (if_pos c9).symm.trans h
    obtain rfl := rt1 h
    refine s_mask [true, false, false, false] ?_
    exact hk
  · replace h := (if_neg c9).symm.trans h
    refine s_aload_n hX dX6_enter_74 rfl ?_
    refine s_getR (r := 97) hX fo_RX6_24_5 SH_107 rfl dX6_enter_75 ?_
    refine s_getR (r := 94) hX fo_RX6_72_4 SH_97 rfl dX6_enter_78 ?_
    refine s_getR (r := 95) hX fo_RX6_89_2 SH_94 rfl dX6_enter_81 ?_
    refine s_iload_n hX dX6_enter_84 rfl ?_
    obtain ⟨c1, h⟩ := gd_some h
    refine s_iald hX SH_95 c1 dX6_enter_85 ?_
    refine s_iload_n hX dX6_enter_86 rfl ?_
    refine s_ic_ne (tgt := 111) hX dX6_enter_87 (by decide) (fun c8 => ?_) (fun c8 => ?_)
    · replace h := (if_neg c8).symm.trans h
      obtain ⟨v2, ev2, h⟩ := bd_some h
      refine s_iinc v2 hX dX6_enter_111 rfl (by rw [ev2]; rfl) (by decide) ?_
      refine s_goto (tgt := 60) hX dX6_enter_114 (by decide) ?_
      refine s_mask [true, true, true, true] ?_
      exact hrec _ _ h hk
    · replace h := (if_pos c8).symm.trans h
      refine s_aload_n hX dX6_enter_90 rfl ?_
      refine s_getR (r := 97) hX fo_RX6_24_5 SH_107 rfl dX6_enter_91 ?_
      refine s_getR (r := 94) hX fo_RX6_72_4 SH_97 rfl dX6_enter_94 ?_
      refine s_iload_n hX dX6_enter_97 rfl ?_
      refine s_iload_n hX dX6_enter_98 rfl ?_
      obtain ⟨r3, hc, h⟩ := bn_some h
      refine s_callVI _ hX (cX2_contains_ok (sl X)  hc) SH_94 mv_RX6_82_2 (fun _ => rfl) (by decide) (Nat.le_of_ble_eq_true rfl) hcs dX6_enter_99 rfl ?_
      refine s_if_ne (tgt := 111) hX dX6_enter_102 (by decide) (fun c7 => ?_) (fun c7 => ?_)
      · replace h := (if_neg c7).symm.trans h
        obtain ⟨v4, ev4, h⟩ := bd_some h
        refine s_iinc v4 hX dX6_enter_111 rfl (by rw [ev4]; rfl) (by decide) ?_
        refine s_goto (tgt := 60) hX dX6_enter_114 (by decide) ?_
        refine s_mask [true, true, true, true] ?_
        exact hrec _ _ h hk
      · replace h := (if_pos c7).symm.trans h
        refine s_aload_n hX dX6_enter_105 rfl ?_
        refine s_iload_n hX dX6_enter_106 rfl ?_
        refine s_iload_n hX dX6_enter_107 rfl ?_
        obtain ⟨σ5, hc, h⟩ := bn_some h
        refine s_callVV _ hX (cX6_loadPromoted_ok (sl X)  hc) SH_107 mv_RX6_92_5 (fun _ => rfl) (by decide) (Nat.le_of_ble_eq_true rfl) hcs dX6_enter_108 rfl ?_
        obtain ⟨v6, ev6, h⟩ := bd_some h
        refine s_iinc v6 hX dX6_enter_111 rfl (by rw [ev6]; rfl) (by decide) ?_
        refine s_goto (tgt := 60) hX dX6_enter_114 (by decide) ?_
        refine s_mask [true, true, true, true] ?_
        exact hrec _ _ h hk
set_option maxHeartbeats 4000000 in
theorem cX6_enter_ok (l : Launch) {σ : Mm} {l1 : Int32} {l2 : Int32} {σ' : Mm}  (h : fX6_enter σ l1 l2 = some σ') : cV l yX6_enter cX6_enter 4 2 46 (fun ad => [.ref (ad 107), .int l1, .int l2]) σ σ' := by
  refine c_enterV (fun ad => [some (.ref (ad 107)), some (.int l1), some (.int l2), none]) (by decide) (fun ad => ⟨by simp [Value.category], Nat.le_of_ble_eq_true rfl⟩) (fun ad => ⟨1, rfl⟩) ?_
  intro X _ hX hret
  have hcs : ((0 : Nat), (0 : Nat)).1 ≤ (sR X).cells ∧ ((0 : Nat), (0 : Nat)).2 ≤ (sR X).slots := ⟨Nat.zero_le _, Nat.zero_le _⟩
  generalize hcs0 : ((0 : Nat), (0 : Nat)) = cs at hcs hret ⊢
  unfold fX6_enter at h
  show sW X 4 cs σ 0 [some (.ref (sad X 107)), some (.int l1), some (.int l2), none] []
  refine s_iconst 0 hX dX6_enter_0 (by decide) ?_
  refine s_istore_n hX dX6_enter_1 (by decide) ?_
  obtain ⟨σ1, hc, h⟩ := bn_some h
  refine s_mask [true, true, true, true] ?_
  refine pX6_enter_2 hX hcs _ _ _ _ _ hc ?_
  refine s_iconst 0 hX dX6_enter_58 (by decide) ?_
  refine s_istore_n hX dX6_enter_59 (by decide) ?_
  obtain ⟨σ2, hc, h⟩ := bn_some h
  refine s_mask [true, true, true, true] ?_
  refine pX6_enter_60 hX hcs _ _ _ _ _ hc ?_
  refine s_aload_n hX dX6_enter_117 rfl ?_
  refine s_getR (r := 112) hX fo_RX6_21_5 SH_107 rfl dX6_enter_118 ?_
  refine s_iconst 0 hX dX6_enter_121 (by decide) ?_
  refine s_iconst (-1) hX dX6_enter_122 (by decide) ?_
  obtain ⟨c3, h⟩ := gd_some h
  obtain ⟨σ4, eσ4, h⟩ := bd_some h
  refine s_iast hX SH_112 c3 dX6_enter_123 ?_
  refine s_mem σ4 eσ4 ?_
  refine s_aload_n hX dX6_enter_124 rfl ?_
  refine s_getR (r := 112) hX fo_RX6_21_5 SH_107 rfl dX6_enter_125 ?_
  refine s_iconst 1 hX dX6_enter_128 (by decide) ?_
  refine s_iconst (-1) hX dX6_enter_129 (by decide) ?_
  obtain ⟨c5, h⟩ := gd_some h
  obtain ⟨σ6, eσ6, h⟩ := bd_some h
  refine s_iast hX SH_112 c5 dX6_enter_130 ?_
  refine s_mem σ6 eσ6 ?_
  refine s_aload_n hX dX6_enter_131 rfl ?_
  refine s_iconst 1 hX dX6_enter_132 (by decide) ?_
  obtain ⟨σ7, eσ7, h⟩ := bd_some h
  refine s_putI hX fo_RX6_95_5 SH_107 rfl dX6_enter_133 ?_
  refine s_mem σ7 eσ7 ?_
  obtain rfl := rt1 h
  exact hret _ _ dX6_enter_136
