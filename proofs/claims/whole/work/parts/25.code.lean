def gX10_promotions_4 (σ : Mm) (rec : Int32 × Int32 → Option (Int32)) (x1 : Int32) (x2 : Int32) : Option (Int32) :=
  if 96 ≤ x2 then
  some x1
else
  gd x2 96 <|
  if (σ 142 x2.toNatClampNeg) < 0 then
  bd (x1 + 0) fun v2 =>
  bd (x2 + 1) fun v3 =>
  rec (v2, v3)
else
  bd (x1 + 1) fun v4 =>
  bd (x2 + 1) fun v5 =>
  rec (v4, v5)
def qX10_promotions_4 (σ : Mm) : Nat → Int32 × Int32 → Option (Int32) := lp (fun rec s => gX10_promotions_4 σ rec s.1 s.2)
def fX10_promotions (σ : Mm) : Option Int32 :=
  (qX10_promotions_4 σ FU (0, 0)).bind fun v1 =>
  some v1
set_option maxHeartbeats 4000000 in
theorem pX10_promotions_4 {X : sT} {cs : Nat × Nat} (hX : sX X cX10_promotions RX10 3 0 0) (hcs : cs.1 ≤ (sR X).cells ∧ cs.2 ≤ (sR X).slots) (σ : Mm)  : ∀ (n : Nat) (s : Int32 × Int32) (r : Int32), qX10_promotions_4 σ n s = some r → sW X 3 cs σ 33 [none, some (.int r), none] [] → sW X 3 cs σ 4 [some (.ref (sad X 123)), some (.int s.1), some (.int s.2)] [] := by
  refine lp_ind (P := fun (s : Int32 × Int32) (r : Int32) => sW X 3 cs σ 33 [none, some (.int r), none] [] → sW X 3 cs σ 4 [some (.ref (sad X 123)), some (.int s.1), some (.int s.2)] []) ?_
  intro rec hrec s r h0 hk
  obtain ⟨x1, x2⟩ := s
  have h : gX10_promotions_4 σ rec x1 x2 = some r := h0
  unfold gX10_promotions_4 at h
  show sW X 3 cs σ 4 [some (.ref (sad X 123)), some (.int x1), some (.int x2)] []
  refine s_iload_n hX dX10_promotions_4 rfl ?_
  refine s_bipush 96 hX dX10_promotions_5 (by decide) ?_
  refine s_ic_ge (tgt := 33) hX dX10_promotions_7 (by decide) (fun c7 => ?_) (fun c7 => ?_)
  · replace h := (if_pos c7).symm.trans h
    obtain rfl := rt1 h
    refine s_mask [false, true, false] ?_
    exact hk
  · replace h := (if_neg c7).symm.trans h
    refine s_iload_n hX dX10_promotions_10 rfl ?_
    refine s_aload_n hX dX10_promotions_11 rfl ?_
    refine s_getR (r := 142) hX fo_RX10_94_9 SH_123 rfl dX10_promotions_12 ?_
    refine s_iload_n hX dX10_promotions_15 rfl ?_
    obtain ⟨c1, h⟩ := gd_some h
    refine s_iald hX SH_142 c1 dX10_promotions_16 ?_
    refine s_if_lt (tgt := 24) hX dX10_promotions_17 (by decide) (fun c6 => ?_) (fun c6 => ?_)
    · replace h := (if_pos c6).symm.trans h
      refine s_iconst 0 hX dX10_promotions_24 (by decide) ?_
      refine s_iadd hX dX10_promotions_25 ?_
      obtain ⟨v2, ev2, h⟩ := bd_some h
      refine s_topi v2 ev2 ?_
      refine s_istore_n hX dX10_promotions_26 (by decide) ?_
      obtain ⟨v3, ev3, h⟩ := bd_some h
      refine s_iinc v3 hX dX10_promotions_27 rfl (by rw [ev3]; rfl) (by decide) ?_
      refine s_goto (tgt := 4) hX dX10_promotions_30 (by decide) ?_
      refine s_mask [true, true, true] ?_
      exact hrec _ _ h hk
    · replace h := (if_neg c6).symm.trans h
      refine s_iconst 1 hX dX10_promotions_20 (by decide) ?_
      refine s_goto (tgt := 25) hX dX10_promotions_21 (by decide) ?_
      refine s_iadd hX dX10_promotions_25 ?_
      obtain ⟨v4, ev4, h⟩ := bd_some h
      refine s_topi v4 ev4 ?_
      refine s_istore_n hX dX10_promotions_26 (by decide) ?_
      obtain ⟨v5, ev5, h⟩ := bd_some h
      refine s_iinc v5 hX dX10_promotions_27 rfl (by rw [ev5]; rfl) (by decide) ?_
      refine s_goto (tgt := 4) hX dX10_promotions_30 (by decide) ?_
      refine s_mask [true, true, true] ?_
      exact hrec _ _ h hk
set_option maxHeartbeats 4000000 in
theorem cX10_promotions_ok (l : Launch) {σ : Mm} {r : Int32}  (h : fX10_promotions σ = some r) : cI l yX10_promotions cX10_promotions 3 .int 0 0 (fun ad => [.ref (ad 123)]) σ r σ := by
  refine c_enterI (fun ad => [some (.ref (ad 123)), none, none]) (by decide) (fun ad => ⟨by simp [Value.category], Nat.le_of_ble_eq_true rfl⟩) (fun ad => ⟨2, rfl⟩) ?_
  intro X _ hX hret
  have hcs : ((0 : Nat), (0 : Nat)).1 ≤ (sR X).cells ∧ ((0 : Nat), (0 : Nat)).2 ≤ (sR X).slots := ⟨Nat.zero_le _, Nat.zero_le _⟩
  generalize hcs0 : ((0 : Nat), (0 : Nat)) = cs at hcs hret ⊢
  unfold fX10_promotions at h
  show sW X 3 cs σ 0 [some (.ref (sad X 123)), none, none] []
  refine s_iconst 0 hX dX10_promotions_0 (by decide) ?_
  refine s_istore_n hX dX10_promotions_1 (by decide) ?_
  refine s_iconst 0 hX dX10_promotions_2 (by decide) ?_
  refine s_istore_n hX dX10_promotions_3 (by decide) ?_
  obtain ⟨v1, hc, h⟩ := bn_some h
  refine s_mask [true, true, true] ?_
  refine pX10_promotions_4 hX hcs _ _ _ _ hc ?_
  refine s_iload_n hX dX10_promotions_33 rfl ?_
  obtain rfl := rt1 h
  exact hret _ _ (nzi _) dX10_promotions_34
def gX10_costs_12 (σ : Mm) (rec : Int32 × Int32 → Option (Int32)) (x1 : Int32) (x2 : Int32) : Option (Int32) :=
  if 12 ≤ x2 then
  some x1
else
  gd x2 12 <|
  if (σ 139 x2.toNatClampNeg) = 1 then
  (fX10_memoryCost σ x2).bind fun r10 =>
  bd (x1 + r10) fun v11 =>
  bd (x2 + 1) fun v12 =>
  rec (v11, v12)
else
  gd x2 12 <|
  if (σ 139 x2.toNatClampNeg) = 2 then
  (fX10_all σ).bind fun r5 =>
  (fX10_sumOfUses σ x2 r5).bind fun r6 =>
  bd (x1 + r6) fun v7 =>
  bd (x2 + 1) fun v8 =>
  rec (v7, v8)
else
  bd (x1 + 0) fun v3 =>
  bd (x2 + 1) fun v4 =>
  rec (v3, v4)
def qX10_costs_12 (σ : Mm) : Nat → Int32 × Int32 → Option (Int32) := lp (fun rec s => gX10_costs_12 σ rec s.1 s.2)
def fX10_costs (σ : Mm) : Option (Int32 × Mm) :=
  (fX10_layLive σ).bind fun σ1 =>
  bd (-(σ1 123 22)) fun v2 =>
  (qX10_costs_12 σ1 FU (v2, 0)).bind fun v3 =>
  some (v3, σ1)
set_option maxHeartbeats 4000000 in
theorem pX10_costs_12 {X : sT} {cs : Nat × Nat} (hX : sX X cX10_costs RX10 3 4 92) (hcs : cs.1 ≤ (sR X).cells ∧ cs.2 ≤ (sR X).slots) (σ : Mm)  : ∀ (n : Nat) (s : Int32 × Int32) (r : Int32), qX10_costs_12 σ n s = some r → sW X 3 cs σ 68 [none, some (.int r), none] [] → sW X 3 cs σ 12 [some (.ref (sad X 123)), some (.int s.1), some (.int s.2)] [] := by
  refine lp_ind (P := fun (s : Int32 × Int32) (r : Int32) => sW X 3 cs σ 68 [none, some (.int r), none] [] → sW X 3 cs σ 12 [some (.ref (sad X 123)), some (.int s.1), some (.int s.2)] []) ?_
  intro rec hrec s r h0 hk
  obtain ⟨x1, x2⟩ := s
  have h : gX10_costs_12 σ rec x1 x2 = some r := h0
  unfold gX10_costs_12 at h
  show sW X 3 cs σ 12 [some (.ref (sad X 123)), some (.int x1), some (.int x2)] []
  refine s_iload_n hX dX10_costs_12 rfl ?_
  refine s_bipush 12 hX dX10_costs_13 (by decide) ?_
  refine s_ic_ge (tgt := 68) hX dX10_costs_15 (by decide) (fun c14 => ?_) (fun c14 => ?_)
  · replace h := (if_pos c14).symm.trans h
    obtain rfl := rt1 h
    refine s_mask [false, true, false] ?_
    exact hk
  · replace h := (if_neg c14).symm.trans h
    refine s_iload_n hX dX10_costs_18 rfl ?_
    refine s_aload_n hX dX10_costs_19 rfl ?_
    refine s_getR (r := 139) hX fo_RX10_85_9 SH_123 rfl dX10_costs_20 ?_
    refine s_iload_n hX dX10_costs_23 rfl ?_
    obtain ⟨c1, h⟩ := gd_some h
    refine s_iald hX SH_139 c1 dX10_costs_24 ?_
    refine s_iconst 1 hX dX10_costs_25 (by decide) ?_
    refine s_ic_ne (tgt := 37) hX dX10_costs_26 (by decide) (fun c13 => ?_) (fun c13 => ?_)
    · replace h := (if_neg c13).symm.trans h
      refine s_aload_n hX dX10_costs_37 rfl ?_
      refine s_getR (r := 139) hX fo_RX10_85_9 SH_123 rfl dX10_costs_38 ?_
      refine s_iload_n hX dX10_costs_41 rfl ?_
      obtain ⟨c2, h⟩ := gd_some h
      refine s_iald hX SH_139 c2 dX10_costs_42 ?_
      refine s_iconst 2 hX dX10_costs_43 (by decide) ?_
      refine s_ic_ne (tgt := 59) hX dX10_costs_44 (by decide) (fun c9 => ?_) (fun c9 => ?_)
      · replace h := (if_neg c9).symm.trans h
        refine s_iconst 0 hX dX10_costs_59 (by decide) ?_
        refine s_iadd hX dX10_costs_60 ?_
        obtain ⟨v3, ev3, h⟩ := bd_some h
        refine s_topi v3 ev3 ?_
        refine s_istore_n hX dX10_costs_61 (by decide) ?_
        obtain ⟨v4, ev4, h⟩ := bd_some h
        refine s_iinc v4 hX dX10_costs_62 rfl (by rw [ev4]; rfl) (by decide) ?_
        refine s_goto (tgt := 12) hX dX10_costs_65 (by decide) ?_
        refine s_mask [true, true, true] ?_
        exact hrec _ _ h hk
      · replace h := (if_pos c9).symm.trans h
        refine s_aload_n hX dX10_costs_47 rfl ?_
        refine s_iload_n hX dX10_costs_48 rfl ?_
        refine s_aload_n hX dX10_costs_49 rfl ?_
        obtain ⟨r5, hc, h⟩ := bn_some h
        refine s_callVI _ hX (cX10_all_ok (sl X)  hc) SH_123 mv_RX10_282_9 (fun _ => rfl) (by decide) (Nat.le_of_ble_eq_true rfl) hcs dX10_costs_50 rfl ?_
        obtain ⟨r6, hc, h⟩ := bn_some h
        refine s_callVI _ hX (cX10_sumOfUses_ok (sl X)  hc) SH_123 mv_RX10_286_9 (fun _ => rfl) (by decide) (Nat.le_of_ble_eq_true rfl) hcs dX10_costs_53 rfl ?_
        refine s_goto (tgt := 60) hX dX10_costs_56 (by decide) ?_
        refine s_iadd hX dX10_costs_60 ?_
        obtain ⟨v7, ev7, h⟩ := bd_some h
        refine s_topi v7 ev7 ?_
        refine s_istore_n hX dX10_costs_61 (by decide) ?_
        obtain ⟨v8, ev8, h⟩ := bd_some h
        refine s_iinc v8 hX dX10_costs_62 rfl (by rw [ev8]; rfl) (by decide) ?_
        refine s_goto (tgt := 12) hX dX10_costs_65 (by decide) ?_
        refine s_mask [true, true, true] ?_
        exact hrec _ _ h hk
    · replace h := (if_pos c13).symm.trans h
      refine s_aload_n hX dX10_costs_29 rfl ?_
      refine s_iload_n hX dX10_costs_30 rfl ?_
      obtain ⟨r10, hc, h⟩ := bn_some h
      refine s_callVI _ hX (cX10_memoryCost_ok (sl X)  hc) SH_123 mv_RX10_292_9 (fun _ => rfl) (by decide) (Nat.le_of_ble_eq_true rfl) hcs dX10_costs_31 rfl ?_
      refine s_goto (tgt := 60) hX dX10_costs_34 (by decide) ?_
      refine s_iadd hX dX10_costs_60 ?_
      obtain ⟨v11, ev11, h⟩ := bd_some h
      refine s_topi v11 ev11 ?_
      refine s_istore_n hX dX10_costs_61 (by decide) ?_
      obtain ⟨v12, ev12, h⟩ := bd_some h
      refine s_iinc v12 hX dX10_costs_62 rfl (by rw [ev12]; rfl) (by decide) ?_
      refine s_goto (tgt := 12) hX dX10_costs_65 (by decide) ?_
      refine s_mask [true, true, true] ?_
      exact hrec _ _ h hk
set_option maxHeartbeats 4000000 in
theorem cX10_costs_ok (l : Launch) {σ : Mm} {r : Int32} {σ' : Mm}  (h : fX10_costs σ = some (r, σ')) : cI l yX10_costs cX10_costs 3 .int 4 92 (fun ad => [.ref (ad 123)]) σ r σ' := by
  refine c_enterI (fun ad => [some (.ref (ad 123)), none, none]) (by decide) (fun ad => ⟨by simp [Value.category], Nat.le_of_ble_eq_true rfl⟩) (fun ad => ⟨2, rfl⟩) ?_
  intro X _ hX hret
  have hcs : ((0 : Nat), (0 : Nat)).1 ≤ (sR X).cells ∧ ((0 : Nat), (0 : Nat)).2 ≤ (sR X).slots := ⟨Nat.zero_le _, Nat.zero_le _⟩
  generalize hcs0 : ((0 : Nat), (0 : Nat)) = cs at hcs hret ⊢
  unfold fX10_costs at h
  show sW X 3 cs σ 0 [some (.ref (sad X 123)), none, none] []
  refine s_aload_n hX dX10_costs_0 rfl ?_
  obtain ⟨σ1, hc, h⟩ := bn_some h
  refine s_callVV _ hX (cX10_layLive_ok (sl X)  hc) SH_123 mv_RX10_252_9 (fun _ => rfl) (by decide) (Nat.le_of_ble_eq_true rfl) hcs dX10_costs_1 rfl ?_
  refine s_aload_n hX dX10_costs_4 rfl ?_
  refine s_getI hX fo_RX10_82_9 SH_123 rfl dX10_costs_5 ?_
  refine s_ineg hX dX10_costs_8 ?_
  obtain ⟨v2, ev2, h⟩ := bd_some h
  refine s_topi v2 ev2 ?_
  refine s_istore_n hX dX10_costs_9 (by decide) ?_
  refine s_iconst 0 hX dX10_costs_10 (by decide) ?_
  refine s_istore_n hX dX10_costs_11 (by decide) ?_
  obtain ⟨v3, hc, h⟩ := bn_some h
  refine s_mask [true, true, true] ?_
  refine pX10_costs_12 hX hcs _ _ _ _ hc ?_
  refine s_iload_n hX dX10_costs_68 rfl ?_
  obtain ⟨rfl, rfl⟩ := rt2 h
  exact hret _ _ (nzi _) dX10_costs_69
def fX10_planned (σ : Mm) (l1 : Int32) : Option (Int32 × Mm) :=
  bd (upm σ 123 (upd (σ 123) 0 0)) fun σ1 =>
  (fX10_in σ1 l1 0 4).bind fun r2 =>
  if r2 = 0 then
  bn2 (fX10_fails σ1 1) fun r14 σ15 =>
  some (r14, σ15)
else
  if (σ1 123 14) = 0 then
  bn2 (fX10_fails σ1 2) fun r11 σ12 =>
  some (r11, σ12)
else
  if l1 = 0 then
  some (σ1 123 20, σ1)
else if l1 = 1 then
  some (σ1 123 21, σ1)
else if l1 = 2 then
  (fX10_homes σ1 2).bind fun r5 =>
  some (r5, σ1)
else if l1 = 3 then
  (fX10_promotions σ1).bind fun r7 =>
  some (r7, σ1)
else 
  bn2 (fX10_costs σ1) fun r9 σ10 =>
  some (r9, σ10)
set_option maxHeartbeats 4000000 in
theorem cX10_planned_ok (l : Launch) {σ : Mm} {l1 : Int32} {r : Int32} {σ' : Mm}  (h : fX10_planned σ l1 = some (r, σ')) : cI l yX10_planned cX10_planned 2 .int 5 114 (fun ad => [.ref (ad 123), .int l1]) σ r σ' := by
  refine c_enterI (fun ad => [some (.ref (ad 123)), some (.int l1)]) (by decide) (fun ad => ⟨by simp [Value.category], Nat.le_of_ble_eq_true rfl⟩) (fun ad => ⟨0, rfl⟩) ?_
  intro X _ hX hret
  have hcs : ((0 : Nat), (0 : Nat)).1 ≤ (sR X).cells ∧ ((0 : Nat), (0 : Nat)).2 ≤ (sR X).slots := ⟨Nat.zero_le _, Nat.zero_le _⟩
  generalize hcs0 : ((0 : Nat), (0 : Nat)) = cs at hcs hret ⊢
  unfold fX10_planned at h
  show sW X 2 cs σ 0 [some (.ref (sad X 123)), some (.int l1)] []
  refine s_aload_n hX dX10_planned_0 rfl ?_
  refine s_iconst 0 hX dX10_planned_1 (by decide) ?_
  obtain ⟨σ1, eσ1, h⟩ := bd_some h
  refine s_putI hX fo_RX10_1_9 SH_123 rfl dX10_planned_2 ?_
  refine s_mem σ1 eσ1 ?_
  refine s_iload_n hX dX10_planned_5 rfl ?_
  refine s_iconst 0 hX dX10_planned_6 (by decide) ?_
  refine s_iconst 4 hX dX10_planned_7 (by decide) ?_
  obtain ⟨r2, hc, h⟩ := bn_some h
  refine s_callSI _ hX (cX10_in_ok (sl X)  hc) ms_RX10_7 (fun _ => rfl) (by decide) (Nat.le_of_ble_eq_true rfl) hcs dX10_planned_8 rfl ?_
  refine s_if_ne (tgt := 20) hX dX10_planned_11 (by decide) (fun c16 => ?_) (fun c16 => ?_)
  · replace h := (if_neg c16).symm.trans h
    refine s_aload_n hX dX10_planned_20 rfl ?_
    refine s_getI hX fo_RX10_57_9 SH_123 rfl dX10_planned_21 ?_
    refine s_if_ne (tgt := 33) hX dX10_planned_24 (by decide) (fun c13 => ?_) (fun c13 => ?_)
    · replace h := (if_neg c13).symm.trans h
      refine s_iload_n hX dX10_planned_33 rfl ?_
      by_cases c3 : l1 = 0
      · replace h := (if_pos c3).symm.trans h
        refine s_tswIn (tgt := 64) hX dX10_planned_34 (v := 0) c3 (by decide) (by decide) rfl (by decide) ?_
        refine s_aload_n hX dX10_planned_64 rfl ?_
        refine s_getI hX fo_RX10_76_9 SH_123 rfl dX10_planned_65 ?_
        obtain ⟨rfl, rfl⟩ := rt2 h
        exact hret _ _ (nzi _) dX10_planned_68
      · replace h := (if_neg c3).symm.trans h
        by_cases c4 : l1 = 1
        · replace h := (if_pos c4).symm.trans h
          refine s_tswIn (tgt := 69) hX dX10_planned_34 (v := 1) c4 (by decide) (by decide) rfl (by decide) ?_
          refine s_aload_n hX dX10_planned_69 rfl ?_
          refine s_getI hX fo_RX10_79_9 SH_123 rfl dX10_planned_70 ?_
          obtain ⟨rfl, rfl⟩ := rt2 h
          exact hret _ _ (nzi _) dX10_planned_73
        · replace h := (if_neg c4).symm.trans h
          by_cases c6 : l1 = 2
          · replace h := (if_pos c6).symm.trans h
            refine s_tswIn (tgt := 74) hX dX10_planned_34 (v := 2) c6 (by decide) (by decide) rfl (by decide) ?_
            refine s_aload_n hX dX10_planned_74 rfl ?_
            refine s_iconst 2 hX dX10_planned_75 (by decide) ?_
            obtain ⟨r5, hc, h⟩ := bn_some h
            refine s_callVI _ hX (cX10_homes_ok (sl X)  hc) SH_123 mv_RX10_338_9 (fun _ => rfl) (by decide) (Nat.le_of_ble_eq_true rfl) hcs dX10_planned_76 rfl ?_
            obtain ⟨rfl, rfl⟩ := rt2 h
            exact hret _ _ (nzi _) dX10_planned_79
          · replace h := (if_neg c6).symm.trans h
            by_cases c8 : l1 = 3
            · replace h := (if_pos c8).symm.trans h
              refine s_tswIn (tgt := 80) hX dX10_planned_34 (v := 3) c8 (by decide) (by decide) rfl (by decide) ?_
              refine s_aload_n hX dX10_planned_80 rfl ?_
              obtain ⟨r7, hc, h⟩ := bn_some h
              refine s_callVI _ hX (cX10_promotions_ok (sl X)  hc) SH_123 mv_RX10_341_9 (fun _ => rfl) (by decide) (Nat.le_of_ble_eq_true rfl) hcs dX10_planned_81 rfl ?_
              obtain ⟨rfl, rfl⟩ := rt2 h
              exact hret _ _ (nzi _) dX10_planned_84
            · replace h := (if_neg c8).symm.trans h
              refine s_tswOut (tgt := 85) hX dX10_planned_34 (tsw_out0_3 l1 c3 c4 c6 c8) (by decide) ?_
              refine s_aload_n hX dX10_planned_85 rfl ?_
              obtain ⟨r9, σ10, hc, h⟩ := bn2_some h
              refine s_callVI _ hX (cX10_costs_ok (sl X)  hc) SH_123 mv_RX10_344_9 (fun _ => rfl) (by decide) (Nat.le_of_ble_eq_true rfl) hcs dX10_planned_86 rfl ?_
              obtain ⟨rfl, rfl⟩ := rt2 h
              exact hret _ _ (nzi _) dX10_planned_89
    · replace h := (if_pos c13).symm.trans h
      refine s_aload_n hX dX10_planned_27 rfl ?_
      refine s_iconst 2 hX dX10_planned_28 (by decide) ?_
      obtain ⟨r11, σ12, hc, h⟩ := bn2_some h
      refine s_callVI _ hX (cX10_fails_ok (sl X)  hc) SH_123 mv_RX10_217_9 (fun _ => rfl) (by decide) (Nat.le_of_ble_eq_true rfl) hcs dX10_planned_29 rfl ?_
      obtain ⟨rfl, rfl⟩ := rt2 h
      exact hret _ _ (nzi _) dX10_planned_32
  · replace h := (if_pos c16).symm.trans h
    refine s_aload_n hX dX10_planned_14 rfl ?_
    refine s_iconst 1 hX dX10_planned_15 (by decide) ?_
    obtain ⟨r14, σ15, hc, h⟩ := bn2_some h
    refine s_callVI _ hX (cX10_fails_ok (sl X)  hc) SH_123 mv_RX10_217_9 (fun _ => rfl) (by decide) (Nat.le_of_ble_eq_true rfl) hcs dX10_planned_16 rfl ?_
    obtain ⟨rfl, rfl⟩ := rt2 h
    exact hret _ _ (nzi _) dX10_planned_19
def gX10_enough_2  (rec : Mm × Int32 → Option (Mm)) (σ : Mm) (x1 : Int32) : Option (Mm) :=
  if 12 ≤ x1 then
  some σ
else
  gd x1 12 <|
  gd x1 12 <|
  bd (upm σ 143 (upd (σ 143) x1.toNatClampNeg (σ 139 x1.toNatClampNeg))) fun σ3 =>
  gd x1 12 <|
  gd x1 12 <|
  bd (upm σ3 144 (upd (σ3 144) x1.toNatClampNeg (σ3 140 x1.toNatClampNeg))) fun σ6 =>
  gd x1 12 <|
  gd x1 12 <|
  bd (upm σ6 145 (upd (σ6 145) x1.toNatClampNeg (σ6 141 x1.toNatClampNeg))) fun σ9 =>
  bd (x1 + 1) fun v10 =>
  rec (σ9, v10)
def qX10_enough_2  : Nat → Mm × Int32 → Option (Mm) := lp (fun rec s => gX10_enough_2  rec s.1 s.2)
def gX10_enough_65 (l1 : Int32) (rec : Mm × Int32 → Option (Mm)) (σ : Mm) (x2 : Int32) : Option (Mm) :=
  if 12 ≤ x2 then
  some σ
else
  gd x2 12 <|
  gd x2 12 <|
  bd (upm σ 139 (upd (σ 139) x2.toNatClampNeg (σ 143 x2.toNatClampNeg))) fun σ3 =>
  gd x2 12 <|
  gd x2 12 <|
  bd (upm σ3 140 (upd (σ3 140) x2.toNatClampNeg (σ3 144 x2.toNatClampNeg))) fun σ6 =>
  gd x2 12 <|
  gd x2 12 <|
  bd (upm σ6 141 (upd (σ6 141) x2.toNatClampNeg (σ6 145 x2.toNatClampNeg))) fun σ9 =>
  bd (x2 + 1) fun v10 =>
  rec (σ9, v10)
def qX10_enough_65 (l1 : Int32) : Nat → Mm × Int32 → Option (Mm) := lp (fun rec s => gX10_enough_65 l1 rec s.1 s.2)
def fX10_enough (σ : Mm) : Option (Int32 × Mm) :=
  (qX10_enough_2  FU (σ, 0)).bind fun σ1 =>
  (fX10_begins σ1).bind fun σ2 =>
  bn2 (fX10_colours σ2) fun r3 σ4 =>
  bd (mx 1 r3) fun v5 =>
  (qX10_enough_65 v5 FU (σ4, 0)).bind fun σ6 =>
  some (v5, σ6)
set_option maxHeartbeats 4000000 in
theorem pX10_enough_2 {X : sT} {cs : Nat × Nat} (hX : sX X cX10_enough RX10 3 6 135) (hcs : cs.1 ≤ (sR X).cells ∧ cs.2 ≤ (sR X).slots)   : ∀ (n : Nat) (s : Mm × Int32) (r : Mm), qX10_enough_2  n s = some r → sW X 3 cs r 50 [some (.ref (sad X 123)), none, none] [] → sW X 3 cs s.1 2 [some (.ref (sad X 123)), some (.int s.2), none] [] := by
  refine lp_ind (P := fun (s : Mm × Int32) (r : Mm) => sW X 3 cs r 50 [some (.ref (sad X 123)), none, none] [] → sW X 3 cs s.1 2 [some (.ref (sad X 123)), some (.int s.2), none] []) ?_
  intro rec hrec s r h0 hk
  obtain ⟨σ, x1⟩ := s
  have h : gX10_enough_2  rec σ x1 = some r := h0
  unfold gX10_enough_2 at h
  show sW X 3 cs σ 2 [some (.ref (sad X 123)), some (.int x1), none] []
  refine s_iload_n hX dX10_enough_2 rfl ?_
  refine s_bipush 12 hX dX10_enough_3 (by decide) ?_
  refine s_ic_ge (tgt := 50) hX dX10_enough_5 (by decide) (fun c11 => ?_) (fun c11 => ?_)
  · replace h := (if_pos c11).symm.trans h
    obtain rfl := rt1 h
    refine s_mask [true, false, false] ?_
    exact hk
  · replace h := (if_neg c11).symm.trans h
    refine s_aload_n hX dX10_enough_8 rfl ?_
    refine s_getR (r := 143) hX fo_RX10_97_9 SH_123 rfl dX10_enough_9 ?_
    refine s_iload_n hX dX10_enough_12 rfl ?_
    refine s_aload_n hX dX10_enough_13 rfl ?_
    refine s_getR (r := 139) hX fo_RX10_85_9 SH_123 rfl dX10_enough_14 ?_
    refine s_iload_n hX dX10_enough_17 rfl ?_
    obtain ⟨c1, h⟩ := gd_some h
    refine s_iald hX SH_139 c1 dX10_enough_18 ?_
    obtain ⟨c2, h⟩ := gd_some h
    obtain ⟨σ3, eσ3, h⟩ := bd_some h
    refine s_iast hX SH_143 c2 dX10_enough_19 ?_
    refine s_mem σ3 eσ3 ?_
    refine s_aload_n hX dX10_enough_20 rfl ?_
    refine s_getR (r := 144) hX fo_RX10_100_9 SH_123 rfl dX10_enough_21 ?_
    refine s_iload_n hX dX10_enough_24 rfl ?_
    refine s_aload_n hX dX10_enough_25 rfl ?_
    refine s_getR (r := 140) hX fo_RX10_88_9 SH_123 rfl dX10_enough_26 ?_
    refine s_iload_n hX dX10_enough_29 rfl ?_
    obtain ⟨c4, h⟩ := gd_some h
    refine s_iald hX SH_140 c4 dX10_enough_30 ?_
    obtain ⟨c5, h⟩ := gd_some h
    obtain ⟨σ6, eσ6, h⟩ := bd_some h
    refine s_iast hX SH_144 c5 dX10_enough_31 ?_
    refine s_mem σ6 eσ6 ?_
    refine s_aload_n hX dX10_enough_32 rfl ?_
    refine s_getR (r := 145) hX fo_RX10_103_9 SH_123 rfl dX10_enough_33 ?_
    refine s_iload_n hX dX10_enough_36 rfl ?_
    refine s_aload_n hX dX10_enough_37 rfl ?_
    refine s_getR (r := 141) hX fo_RX10_91_9 SH_123 rfl dX10_enough_38 ?_
    refine s_iload_n hX dX10_enough_41 rfl ?_
    obtain ⟨c7, h⟩ := gd_some h
    refine s_iald hX SH_141 c7 dX10_enough_42 ?_
    obtain ⟨c8, h⟩ := gd_some h
    obtain ⟨σ9, eσ9, h⟩ := bd_some h
    refine s_iast hX SH_145 c8 dX10_enough_43 ?_
    refine s_mem σ9 eσ9 ?_
    obtain ⟨v10, ev10, h⟩ := bd_some h
    refine s_iinc v10 hX dX10_enough_44 rfl (by rw [ev10]; rfl) (by decide) ?_
    refine s_goto (tgt := 2) hX dX10_enough_47 (by decide) ?_
    refine s_mask [true, true, false] ?_
    exact hrec _ _ h hk
set_option maxHeartbeats 4000000 in
theorem pX10_enough_65 {X : sT} {cs : Nat × Nat} (hX : sX X cX10_enough RX10 3 6 135) (hcs : cs.1 ≤ (sR X).cells ∧ cs.2 ≤ (sR X).slots) (l1 : Int32)  : ∀ (n : Nat) (s : Mm × Int32) (r : Mm), qX10_enough_65 l1 n s = some r → sW X 3 cs r 113 [none, some (.int l1), none] [] → sW X 3 cs s.1 65 [some (.ref (sad X 123)), some (.int l1), some (.int s.2)] [] := by
  refine lp_ind (P := fun (s : Mm × Int32) (r : Mm) => sW X 3 cs r 113 [none, some (.int l1), none] [] → sW X 3 cs s.1 65 [some (.ref (sad X 123)), some (.int l1), some (.int s.2)] []) ?_
  intro rec hrec s r h0 hk
  obtain ⟨σ, x2⟩ := s
  have h : gX10_enough_65 l1 rec σ x2 = some r := h0
  unfold gX10_enough_65 at h
  show sW X 3 cs σ 65 [some (.ref (sad X 123)), some (.int l1), some (.int x2)] []
  refine s_iload_n hX dX10_enough_65 rfl ?_
  refine s_bipush 12 hX dX10_enough_66 (by decide) ?_
  refine s_ic_ge (tgt := 113) hX dX10_enough_68 (by decide) (fun c11 => ?_) (fun c11 => ?_)
  · replace h := (if_pos c11).symm.trans h
    obtain rfl := rt1 h
    refine s_mask [false, true, false] ?_
    exact hk
  · replace h := (if_neg c11).symm.trans h
    refine s_aload_n hX dX10_enough_71 rfl ?_
    refine s_getR (r := 139) hX fo_RX10_85_9 SH_123 rfl dX10_enough_72 ?_
    refine s_iload_n hX dX10_enough_75 rfl ?_
    refine s_aload_n hX dX10_enough_76 rfl ?_
    refine s_getR (r := 143) hX fo_RX10_97_9 SH_123 rfl dX10_enough_77 ?_
    refine s_iload_n hX dX10_enough_80 rfl ?_
    obtain ⟨c1, h⟩ := gd_some h
    refine s_iald hX SH_143 c1 dX10_enough_81 ?_
    obtain ⟨c2, h⟩ := gd_some h
    obtain ⟨σ3, eσ3, h⟩ := bd_some h
    refine s_iast hX SH_139 c2 dX10_enough_82 ?_
    refine s_mem σ3 eσ3 ?_
    refine s_aload_n hX dX10_enough_83 rfl ?_
    refine s_getR (r := 140) hX fo_RX10_88_9 SH_123 rfl dX10_enough_84 ?_
    refine s_iload_n hX dX10_enough_87 rfl ?_
    refine s_aload_n hX dX10_enough_88 rfl ?_
    refine s_getR (r := 144) hX fo_RX10_100_9 SH_123 rfl dX10_enough_89 ?_
    refine s_iload_n hX dX10_enough_92 rfl ?_
    obtain ⟨c4, h⟩ := gd_some h
    refine s_iald hX SH_144 c4 dX10_enough_93 ?_
    obtain ⟨c5, h⟩ := gd_some h
    obtain ⟨σ6, eσ6, h⟩ := bd_some h
    refine s_iast hX SH_140 c5 dX10_enough_94 ?_
    refine s_mem σ6 eσ6 ?_
    refine s_aload_n hX dX10_enough_95 rfl ?_
    refine s_getR (r := 141) hX fo_RX10_91_9 SH_123 rfl dX10_enough_96 ?_
    refine s_iload_n hX dX10_enough_99 rfl ?_
    refine s_aload_n hX dX10_enough_100 rfl ?_
    refine s_getR (r := 145) hX fo_RX10_103_9 SH_123 rfl dX10_enough_101 ?_
    refine s_iload_n hX dX10_enough_104 rfl ?_
    obtain ⟨c7, h⟩ := gd_some h
    refine s_iald hX SH_145 c7 dX10_enough_105 ?_
    obtain ⟨c8, h⟩ := gd_some h
    obtain ⟨σ9, eσ9, h⟩ := bd_some h
    refine s_iast hX SH_141 c8 dX10_enough_106 ?_
    refine s_mem σ9 eσ9 ?_
    obtain ⟨v10, ev10, h⟩ := bd_some h
    refine s_iinc v10 hX dX10_enough_107 rfl (by rw [ev10]; rfl) (by decide) ?_
    refine s_goto (tgt := 65) hX dX10_enough_110 (by decide) ?_
    refine s_mask [true, true, true] ?_
    exact hrec _ _ h hk
set_option maxHeartbeats 4000000 in
theorem cX10_enough_ok (l : Launch) {σ : Mm} {r : Int32} {σ' : Mm}  (h : fX10_enough σ = some (r, σ')) : cI l yX10_enough cX10_enough 3 .int 6 135 (fun ad => [.ref (ad 123)]) σ r σ' := by
  refine c_enterI (fun ad => [some (.ref (ad 123)), none, none]) (by decide) (fun ad => ⟨by simp [Value.category], Nat.le_of_ble_eq_true rfl⟩) (fun ad => ⟨2, rfl⟩) ?_
  intro X _ hX hret
  have hcs : ((0 : Nat), (0 : Nat)).1 ≤ (sR X).cells ∧ ((0 : Nat), (0 : Nat)).2 ≤ (sR X).slots := ⟨Nat.zero_le _, Nat.zero_le _⟩
  generalize hcs0 : ((0 : Nat), (0 : Nat)) = cs at hcs hret ⊢
  unfold fX10_enough at h
  show sW X 3 cs σ 0 [some (.ref (sad X 123)), none, none] []
  refine s_iconst 0 hX dX10_enough_0 (by decide) ?_
  refine s_istore_n hX dX10_enough_1 (by decide) ?_
  obtain ⟨σ1, hc, h⟩ := bn_some h
  refine s_mask [true, true, false] ?_
  refine pX10_enough_2 hX hcs  _ _ _ hc ?_
  refine s_aload_n hX dX10_enough_50 rfl ?_
  obtain ⟨σ2, hc, h⟩ := bn_some h
  refine s_callVV _ hX (cX10_begins_ok (sl X)  hc) SH_123 mv_RX10_325_9 (fun _ => rfl) (by decide) (Nat.le_of_ble_eq_true rfl) hcs dX10_enough_51 rfl ?_
  refine s_iconst 1 hX dX10_enough_54 (by decide) ?_
  refine s_aload_n hX dX10_enough_55 rfl ?_
  obtain ⟨r3, σ4, hc, h⟩ := bn2_some h
  refine s_callVI _ hX (cX10_colours_ok (sl X)  hc) SH_123 mv_RX10_328_9 (fun _ => rfl) (by decide) (Nat.le_of_ble_eq_true rfl) hcs dX10_enough_56 rfl ?_
  refine s_max hX w7_169 (by decide) (Nat.le_of_ble_eq_true rfl) hcs dX10_enough_59 ?_
  obtain ⟨v5, ev5, h⟩ := bd_some h
  refine s_topi v5 ev5 ?_
  refine s_istore_n hX dX10_enough_62 (by decide) ?_
  refine s_iconst 0 hX dX10_enough_63 (by decide) ?_
  refine s_istore_n hX dX10_enough_64 (by decide) ?_
  obtain ⟨σ6, hc, h⟩ := bn_some h
  refine s_mask [true, true, true] ?_
  refine pX10_enough_65 hX hcs _ _ _ _ hc ?_
  refine s_iload_n hX dX10_enough_113 rfl ?_
  obtain ⟨rfl, rfl⟩ := rt2 h
  exact hret _ _ (nzi _) dX10_enough_114
def gX10_colourOf_2 (σ : Mm) (l1 : Int32) (l2 : Int32) (rec : Int32 → Option (Int32 ⊕ (Unit))) (x3 : Int32) : Option (Int32 ⊕ (Unit)) :=
  if (σ 123 17) ≤ x3 then
  some (.inr ())
else
  gd ((8 * l1) + x3) 96 <|
  if (σ 142 ((8 * l1) + x3).toNatClampNeg) < 0 then
  bd (x3 + 1) fun v2 =>
  rec v2
else
  gd x3 8 <|
  (fX10_has σ (σ 138 x3.toNatClampNeg) l2).bind fun r4 =>
  if r4 = 0 then
  bd (x3 + 1) fun v5 =>
  rec v5
else
  gd ((8 * l1) + x3) 96 <|
  some (.inl (σ 142 ((8 * l1) + x3).toNatClampNeg))
def qX10_colourOf_2 (σ : Mm) (l1 : Int32) (l2 : Int32) : Nat → Int32 → Option (Int32 ⊕ (Unit)) := lp (fun rec s => gX10_colourOf_2 σ l1 l2 rec s)
def fX10_colourOf (σ : Mm) (l1 : Int32) (l2 : Int32) : Option Int32 :=
  bns (qX10_colourOf_2 σ l1 l2 FU 0) (fun u => some u) (fun _ => some (-1))
set_option maxHeartbeats 4000000 in
theorem pX10_colourOf_2 {X : sT} {cs : Nat × Nat} (hX : sX X cX10_colourOf RX10 4 1 21) (hcs : cs.1 ≤ (sR X).cells ∧ cs.2 ≤ (sR X).slots) (σ : Mm) (l1 : Int32) (l2 : Int32)  : ∀ (n : Nat) (s : Int32) (r : Int32 ⊕ (Unit)), qX10_colourOf_2 σ l1 l2 n s = some r → (∀ u, r = .inr u → sW X 4 cs σ 55 [none, none, none, none] []) → (∀ u, r = .inl u → ∀ pc L, narrow .int (.int u) = .int u → decode cX10_colourOf pc = .ok (.ireturn, 1) → sW X 4 cs σ pc L [.int u]) → sW X 4 cs σ 2 [some (.ref (sad X 123)), some (.int l1), some (.int l2), some (.int s)] [] := by
  refine lp_ind (P := fun (s : Int32) (r : Int32 ⊕ (Unit)) => (∀ u, r = .inr u → sW X 4 cs σ 55 [none, none, none, none] []) → (∀ u, r = .inl u → ∀ pc L, narrow .int (.int u) = .int u → decode cX10_colourOf pc = .ok (.ireturn, 1) → sW X 4 cs σ pc L [.int u]) → sW X 4 cs σ 2 [some (.ref (sad X 123)), some (.int l1), some (.int l2), some (.int s)] []) ?_
  intro rec hrec s r h0 hk hr
  obtain ⟨x3, e0⟩ : ∃ z, z = s := ⟨s, rfl⟩
  subst e0
  have h : gX10_colourOf_2 σ l1 l2 rec x3 = some r := h0
  unfold gX10_colourOf_2 at h
  show sW X 4 cs σ 2 [some (.ref (sad X 123)), some (.int l1), some (.int l2), some (.int x3)] []
  refine s_iload_n hX dX10_colourOf_2 rfl ?_
  refine s_aload_n hX dX10_colourOf_3 rfl ?_
  refine s_getI hX fo_RX10_67_9 SH_123 rfl dX10_colourOf_4 ?_
  refine s_ic_ge (tgt := 55) hX dX10_colourOf_7 (by decide) (fun c9 => ?_) (fun c9 => ?_)
  · replace h := (if_pos c9).symm.trans h
    obtain rfl := rt1 h
    refine s_mask [false, false, false, false] ?_
    exact hk _ rfl
  · replace h := (if_neg c9).symm.trans h
    refine s_aload_n hX dX10_colourOf_10 rfl ?_
    refine s_getR (r := 142) hX fo_RX10_94_9 SH_123 rfl dX10_colourOf_11 ?_
    refine s_bipush 8 hX dX10_colourOf_14 (by decide) ?_
    refine s_iload_n hX dX10_colourOf_16 rfl ?_
    refine s_imul hX dX10_colourOf_17 ?_
    refine s_iload_n hX dX10_colourOf_18 rfl ?_
    refine s_iadd hX dX10_colourOf_19 ?_
    obtain ⟨c1, h⟩ := gd_some h
    refine s_iald hX SH_142 c1 dX10_colourOf_20 ?_
    refine s_if_lt (tgt := 49) hX dX10_colourOf_21 (by decide) (fun c8 => ?_) (fun c8 => ?_)
    · replace h := (if_pos c8).symm.trans h
      obtain ⟨v2, ev2, h⟩ := bd_some h
      refine s_iinc v2 hX dX10_colourOf_49 rfl (by rw [ev2]; rfl) (by decide) ?_
      refine s_goto (tgt := 2) hX dX10_colourOf_52 (by decide) ?_
      refine s_mask [true, true, true, true] ?_
      exact hrec _ _ h hk hr
    · replace h := (if_neg c8).symm.trans h
      refine s_aload_n hX dX10_colourOf_24 rfl ?_
      refine s_getR (r := 138) hX fo_RX10_73_9 SH_123 rfl dX10_colourOf_25 ?_
      refine s_iload_n hX dX10_colourOf_28 rfl ?_
      obtain ⟨c3, h⟩ := gd_some h
      refine s_iald hX SH_138 c3 dX10_colourOf_29 ?_
      refine s_iload_n hX dX10_colourOf_30 rfl ?_
      obtain ⟨r4, hc, h⟩ := bn_some h
      refine s_callSI _ hX (cX10_has_ok (sl X)  hc) ms_RX10_255 (fun _ => rfl) (by decide) (Nat.le_of_ble_eq_true rfl) hcs dX10_colourOf_31 rfl ?_
      refine s_if_eq (tgt := 49) hX dX10_colourOf_34 (by decide) (fun c7 => ?_) (fun c7 => ?_)
      · replace h := (if_pos c7).symm.trans h
        obtain ⟨v5, ev5, h⟩ := bd_some h
        refine s_iinc v5 hX dX10_colourOf_49 rfl (by rw [ev5]; rfl) (by decide) ?_
        refine s_goto (tgt := 2) hX dX10_colourOf_52 (by decide) ?_
        refine s_mask [true, true, true, true] ?_
        exact hrec _ _ h hk hr
      · replace h := (if_neg c7).symm.trans h
        refine s_aload_n hX dX10_colourOf_37 rfl ?_
        refine s_getR (r := 142) hX fo_RX10_94_9 SH_123 rfl dX10_colourOf_38 ?_
        refine s_bipush 8 hX dX10_colourOf_41 (by decide) ?_
        refine s_iload_n hX dX10_colourOf_43 rfl ?_
        refine s_imul hX dX10_colourOf_44 ?_
        refine s_iload_n hX dX10_colourOf_45 rfl ?_
        refine s_iadd hX dX10_colourOf_46 ?_
        obtain ⟨c6, h⟩ := gd_some h
        refine s_iald hX SH_142 c6 dX10_colourOf_47 ?_
        obtain rfl := rt1 h
        exact hr _ rfl _ _ (nzi _) dX10_colourOf_48
set_option maxHeartbeats 4000000 in
theorem cX10_colourOf_ok (l : Launch) {σ : Mm} {l1 : Int32} {l2 : Int32} {r : Int32}  (h : fX10_colourOf σ l1 l2 = some r) : cI l yX10_colourOf cX10_colourOf 4 .int 1 21 (fun ad => [.ref (ad 123), .int l1, .int l2]) σ r σ := by
  refine c_enterI (fun ad => [some (.ref (ad 123)), some (.int l1), some (.int l2), none]) (by decide) (fun ad => ⟨by simp [Value.category], Nat.le_of_ble_eq_true rfl⟩) (fun ad => ⟨1, rfl⟩) ?_
  intro X _ hX hret
  have hcs : ((0 : Nat), (0 : Nat)).1 ≤ (sR X).cells ∧ ((0 : Nat), (0 : Nat)).2 ≤ (sR X).slots := ⟨Nat.zero_le _, Nat.zero_le _⟩
  generalize hcs0 : ((0 : Nat), (0 : Nat)) = cs at hcs hret ⊢
  unfold fX10_colourOf at h
  show sW X 4 cs σ 0 [some (.ref (sad X 123)), some (.int l1), some (.int l2), none] []
  refine s_iconst 0 hX dX10_colourOf_0 (by decide) ?_
  refine s_istore_n hX dX10_colourOf_1 (by decide) ?_
  refine s_mask [true, true, true, true] ?_
  rcases bns_some h with ⟨u, hc, h⟩ | ⟨u, hc, h⟩
  · cases h
    exact pX10_colourOf_2 hX hcs _ _ _ _ _ _ hc (fun _ e => nomatch e) (fun w e pc L nn d => by cases e; exact hret pc L nn d)
  · refine pX10_colourOf_2 hX hcs _ _ _ _ _ _ hc (fun w e => ?_) (fun w e => nomatch e)
    cases e
    refine s_iconst (-1) hX dX10_colourOf_55 (by decide) ?_
    obtain rfl := rt1 h
    exact hret _ _ (nzi _) dX10_colourOf_56
def fX10_held (σ : Mm) (l1 : Int32) : Option Int32 :=
  gd 0 2 <|
  if (σ 153 (Int32.toNatClampNeg 0)) = l1 then
  some 0
else
  gd 1 2 <|
  if (σ 153 (Int32.toNatClampNeg 1)) = l1 then
  some 1
else
  some (-1)
set_option maxHeartbeats 4000000 in
theorem cX10_held_ok (l : Launch) {σ : Mm} {l1 : Int32} {r : Int32}  (h : fX10_held σ l1 = some r) : cI l yX10_held cX10_held 2 .int 0 0 (fun ad => [.ref (ad 123), .int l1]) σ r σ := by
  refine c_enterI (fun ad => [some (.ref (ad 123)), some (.int l1)]) (by decide) (fun ad => ⟨by simp [Value.category], Nat.le_of_ble_eq_true rfl⟩) (fun ad => ⟨0, rfl⟩) ?_
  intro X _ hX hret
  have hcs : ((0 : Nat), (0 : Nat)).1 ≤ (sR X).cells ∧ ((0 : Nat), (0 : Nat)).2 ≤ (sR X).slots := ⟨Nat.zero_le _, Nat.zero_le _⟩
  generalize hcs0 : ((0 : Nat), (0 : Nat)) = cs at hcs hret ⊢
  unfold fX10_held at h
  show sW X 2 cs σ 0 [some (.ref (sad X 123)), some (.int l1)] []
  refine s_aload_n hX dX10_held_0 rfl ?_
  refine s_getR (r := 153) hX fo_RX10_127_9 SH_123 rfl dX10_held_1 ?_
  refine s_iconst 0 hX dX10_held_4 (by decide) ?_
  obtain ⟨c1, h⟩ := gd_some h
  refine s_iald hX SH_153 c1 dX10_held_5 ?_
  refine s_iload_n hX dX10_held_6 rfl ?_
  refine s_ic_ne (tgt := 14) hX dX10_held_7 (by decide) (fun c4 => ?_) (fun c4 => ?_)
  · replace h := (if_neg c4).symm.trans h
    refine s_aload_n hX dX10_held_14 rfl ?_
    refine s_getR (r := 153) hX fo_RX10_127_9 SH_123 rfl dX10_held_15 ?_
    refine s_iconst 1 hX dX10_held_18 (by decide) ?_
    obtain ⟨c2, h⟩ := gd_some h
    refine s_iald hX SH_153 c2 dX10_held_19 ?_
    refine s_iload_n hX dX10_held_20 rfl ?_
    refine s_ic_ne (tgt := 28) hX dX10_held_21 (by decide) (fun c3 => ?_) (fun c3 => ?_)
    · replace h := (if_neg c3).symm.trans h
      refine s_iconst (-1) hX dX10_held_28 (by decide) ?_
      obtain rfl := rt1 h
      exact hret _ _ (nzi _) dX10_held_29
    · replace h := (if_pos c3).symm.trans h
      refine s_iconst 1 hX dX10_held_24 (by decide) ?_
      refine s_goto (tgt := 29) hX dX10_held_25 (by decide) ?_
      obtain rfl := rt1 h
      exact hret _ _ (nzi _) dX10_held_29
  · replace h := (if_pos c4).symm.trans h
    refine s_iconst 0 hX dX10_held_10 (by decide) ?_
    refine s_goto (tgt := 29) hX dX10_held_11 (by decide) ?_
    obtain rfl := rt1 h
    exact hret _ _ (nzi _) dX10_held_29
def fX10_holds (σ : Mm) (l1 : Int32) : Option (Int32 × Mm) :=
  (fX10_held σ l1).bind fun r1 =>
  jn (fun (v2 : Int32) => jn (fun (v4 : Int32) => gd v4 2 <|
  bd (upm σ 153 (upd (σ 153) v4.toNatClampNeg l1)) fun σ7 =>
  bd (upm σ7 123 (upd (σ7 123) 38 (1 - v4))) fun σ8 =>
  gb v2 (some (v2, σ8))) fun j5 =>
  if v2 = 0 then
  j5 (σ 123 38)
else
  (fX10_held σ l1).bind fun r9 =>
  j5 r9) fun j3 =>
  if r1 < 0 then
  j3 0
else
  j3 1
set_option maxHeartbeats 4000000 in
theorem cX10_holds_ok (l : Launch) {σ : Mm} {l1 : Int32} {r : Int32} {σ' : Mm}  (h : fX10_holds σ l1 = some (r, σ')) : cI l yX10_holds cX10_holds 4 .boolean 1 21 (fun ad => [.ref (ad 123), .int l1]) σ r σ' := by
  refine c_enterI (fun ad => [some (.ref (ad 123)), some (.int l1), none, none]) (by decide) (fun ad => ⟨by simp [Value.category], Nat.le_of_ble_eq_true rfl⟩) (fun ad => ⟨2, rfl⟩) ?_
  intro X _ hX hret
  have hcs : ((0 : Nat), (0 : Nat)).1 ≤ (sR X).cells ∧ ((0 : Nat), (0 : Nat)).2 ≤ (sR X).slots := ⟨Nat.zero_le _, Nat.zero_le _⟩
  generalize hcs0 : ((0 : Nat), (0 : Nat)) = cs at hcs hret ⊢
  unfold fX10_holds at h
  show sW X 4 cs σ 0 [some (.ref (sad X 123)), some (.int l1), none, none] []
  refine s_aload_n hX dX10_holds_0 rfl ?_
  refine s_iload_n hX dX10_holds_1 rfl ?_
  obtain ⟨r1, hc, h⟩ := bn_some h
  refine s_callVI _ hX (cX10_held_ok (sl X)  hc) SH_123 mv_RX10_347_9 (fun _ => rfl) (by decide) (Nat.le_of_ble_eq_true rfl) hcs dX10_holds_2 rfl ?_
  refine jn_use (fun j => ∀ (v2 : Int32), j v2 = some (r, σ') → sW X 4 cs σ 13 [some (.ref (sad X 123)), some (.int l1), none, none] [.int v2]) h ?_ ?_
  · intro v2 h
    refine s_istore_n hX dX10_holds_13 (by decide) ?_
    refine s_iload_n hX dX10_holds_14 rfl ?_
    refine jn_use (fun j => ∀ (v4 : Int32), j v4 = some (r, σ') → sW X 4 cs σ 30 [some (.ref (sad X 123)), some (.int l1), some (.int v2), none] [.int v4]) h ?_ ?_
    · intro v4 h
      refine s_istore_n hX dX10_holds_30 (by decide) ?_
      refine s_aload_n hX dX10_holds_31 rfl ?_
      refine s_getR (r := 153) hX fo_RX10_127_9 SH_123 rfl dX10_holds_32 ?_
      refine s_iload_n hX dX10_holds_35 rfl ?_
      refine s_iload_n hX dX10_holds_36 rfl ?_
      obtain ⟨c6, h⟩ := gd_some h
      obtain ⟨σ7, eσ7, h⟩ := bd_some h
      refine s_iast hX SH_153 c6 dX10_holds_37 ?_
      refine s_mem σ7 eσ7 ?_
      refine s_aload_n hX dX10_holds_38 rfl ?_
      refine s_iconst 1 hX dX10_holds_39 (by decide) ?_
      refine s_iload_n hX dX10_holds_40 rfl ?_
      refine s_isub hX dX10_holds_41 ?_
      obtain ⟨σ8, eσ8, h⟩ := bd_some h
      refine s_putI hX fo_RX10_130_9 SH_123 rfl dX10_holds_42 ?_
      refine s_mem σ8 eσ8 ?_
      refine s_iload_n hX dX10_holds_45 rfl ?_
      obtain ⟨hv, h⟩ := gb_some h
      obtain ⟨rfl, rfl⟩ := rt2 h
      exact hret _ _ (gb_n hv) dX10_holds_46
    · intro j5 hj5 h
      refine s_if_eq (tgt := 26) hX dX10_holds_15 (by decide) (fun c10 => ?_) (fun c10 => ?_)
      · replace h := (if_pos c10).symm.trans h
        refine s_aload_n hX dX10_holds_26 rfl ?_
        refine s_getI hX fo_RX10_130_9 SH_123 rfl dX10_holds_27 ?_
        refine s_mask [true, true, true, false] ?_
        exact hj5 _ h
      · replace h := (if_neg c10).symm.trans h
        refine s_aload_n hX dX10_holds_18 rfl ?_
        refine s_iload_n hX dX10_holds_19 rfl ?_
        obtain ⟨r9, hc, h⟩ := bn_some h
        refine s_callVI _ hX (cX10_held_ok (sl X)  hc) SH_123 mv_RX10_347_9 (fun _ => rfl) (by decide) (Nat.le_of_ble_eq_true rfl) hcs dX10_holds_20 rfl ?_
        refine s_goto (tgt := 30) hX dX10_holds_23 (by decide) ?_
        refine s_mask [true, true, true, false] ?_
        exact hj5 _ h
  · intro j3 hj3 h
    refine s_if_lt (tgt := 12) hX dX10_holds_5 (by decide) (fun c11 => ?_) (fun c11 => ?_)
    · replace h := (if_pos c11).symm.trans h
      refine s_iconst 0 hX dX10_holds_12 (by decide) ?_
      refine s_mask [true, true, false, false] ?_
      exact hj3 _ h
    · replace h := (if_neg c11).symm.trans h
      refine s_iconst 1 hX dX10_holds_8 (by decide) ?_
      refine s_goto (tgt := 13) hX dX10_holds_9 (by decide) ?_
      refine s_mask [true, true, false, false] ?_
      exact hj3 _ h
def fX10_got (σ : Mm) (l1 : Int32) : Option (Int32 × Mm) :=
  if (σ 123 40) = 0 then
  gd l1 12 <|
  some (σ 146 l1.toNatClampNeg, σ)
else
  gd l1 12 <|
  if (σ 139 l1.toNatClampNeg) = 0 then
  gd l1 12 <|
  gd (σ 140 l1.toNatClampNeg) 12 <|
  some (σ 147 (σ 140 l1.toNatClampNeg).toNatClampNeg, σ)
else
  gd l1 12 <|
  if (σ 139 l1.toNatClampNeg) = 2 then
  gd 3 4 <|
  gd 3 4 <|
  bd (upm σ 150 (upd (σ 150) (Int32.toNatClampNeg 3) ((σ 150 (Int32.toNatClampNeg 3)) + 1))) fun σ18 =>
  (fX10_constantRow σ18 l1).bind fun r19 =>
  gd r19 64 <|
  some (σ18 132 r19.toNatClampNeg, σ18)
else
  (fX10_colourOf σ l1 (σ 123 39)).bind fun r3 =>
  if r3 < 0 then
  bn2 (fX10_holds σ l1) fun r4 σ5 =>
  jn (fun (σ6 : Mm) => gd l1 12 <|
  gd (σ6 141 l1.toNatClampNeg) 12 <|
  some (σ6 148 (σ6 141 l1.toNatClampNeg).toNatClampNeg, σ6)) fun j7 =>
  if r4 = 0 then
  gd 1 4 <|
  gd 1 4 <|
  bd (upm σ5 150 (upd (σ5 150) (Int32.toNatClampNeg 1) ((σ5 150 (Int32.toNatClampNeg 1)) + 1))) fun σ12 =>
  j7 σ12
else
  j7 σ5
else
  gd r3 12 <|
  some (σ 147 r3.toNatClampNeg, σ)
set_option maxHeartbeats 4000000 in
theorem cX10_got_ok (l : Launch) {σ : Mm} {l1 : Int32} {r : Int32} {σ' : Mm}  (h : fX10_got σ l1 = some (r, σ')) : cI l yX10_got cX10_got 3 .int 2 45 (fun ad => [.ref (ad 123), .int l1]) σ r σ' := by
  refine c_enterI (fun ad => [some (.ref (ad 123)), some (.int l1), none]) (by decide) (fun ad => ⟨by simp [Value.category], Nat.le_of_ble_eq_true rfl⟩) (fun ad => ⟨1, rfl⟩) ?_
  intro X _ hX hret
  have hcs : ((0 : Nat), (0 : Nat)).1 ≤ (sR X).cells ∧ ((0 : Nat), (0 : Nat)).2 ≤ (sR X).slots := ⟨Nat.zero_le _, Nat.zero_le _⟩
  generalize hcs0 : ((0 : Nat), (0 : Nat)) = cs at hcs hret ⊢
  unfold fX10_got at h
  show sW X 3 cs σ 0 [some (.ref (sad X 123)), some (.int l1), none] []
  refine s_aload_n hX dX10_got_0 rfl ?_
  refine s_getI hX fo_RX10_136_9 SH_123 rfl dX10_got_1 ?_
  refine s_if_ne (tgt := 14) hX dX10_got_4 (by decide) (fun c26 => ?_) (fun c26 => ?_)
  · replace h := (if_neg c26).symm.trans h
    refine s_aload_n hX dX10_got_14 rfl ?_
    refine s_getR (r := 139) hX fo_RX10_85_9 SH_123 rfl dX10_got_15 ?_
    refine s_iload_n hX dX10_got_18 rfl ?_
    obtain ⟨c1, h⟩ := gd_some h
    refine s_iald hX SH_139 c1 dX10_got_19 ?_
    refine s_if_ne (tgt := 35) hX dX10_got_20 (by decide) (fun c24 => ?_) (fun c24 => ?_)
    · replace h := (if_neg c24).symm.trans h
      refine s_aload_n hX dX10_got_35 rfl ?_
      refine s_getR (r := 139) hX fo_RX10_85_9 SH_123 rfl dX10_got_36 ?_
      refine s_iload_n hX dX10_got_39 rfl ?_
      obtain ⟨c2, h⟩ := gd_some h
      refine s_iald hX SH_139 c2 dX10_got_40 ?_
      refine s_iconst 2 hX dX10_got_41 (by decide) ?_
      refine s_ic_ne (tgt := 66) hX dX10_got_42 (by decide) (fun c21 => ?_) (fun c21 => ?_)
      · replace h := (if_neg c21).symm.trans h
        refine s_aload_n hX dX10_got_66 rfl ?_
        refine s_iload_n hX dX10_got_67 rfl ?_
        refine s_aload_n hX dX10_got_68 rfl ?_
        refine s_getI hX fo_RX10_133_9 SH_123 rfl dX10_got_69 ?_
        obtain ⟨r3, hc, h⟩ := bn_some h
        refine s_callVI _ hX (cX10_colourOf_ok (sl X)  hc) SH_123 mv_RX10_350_9 (fun _ => rfl) (by decide) (Nat.le_of_ble_eq_true rfl) hcs dX10_got_72 rfl ?_
        refine s_istore_n hX dX10_got_75 (by decide) ?_
        refine s_iload_n hX dX10_got_76 rfl ?_
        refine s_if_lt (tgt := 87) hX dX10_got_77 (by decide) (fun c15 => ?_) (fun c15 => ?_)
        · replace h := (if_pos c15).symm.trans h
          refine s_aload_n hX dX10_got_87 rfl ?_
          refine s_iload_n hX dX10_got_88 rfl ?_
          obtain ⟨r4, σ5, hc, h⟩ := bn2_some h
          refine s_callVI _ hX (cX10_holds_ok (sl X)  hc) SH_123 mv_RX10_353_9 (fun _ => rfl) (by decide) (Nat.le_of_ble_eq_true rfl) hcs dX10_got_89 rfl ?_
          refine jn_use (fun j => ∀ (σ6 : Mm), j σ6 = some (r, σ') → sW X 3 cs σ6 105 [some (.ref (sad X 123)), some (.int l1), none] []) h ?_ ?_
          · intro σ6 h
            refine s_aload_n hX dX10_got_105 rfl ?_
            refine s_getR (r := 148) hX fo_RX10_112_9 SH_123 rfl dX10_got_106 ?_
            refine s_aload_n hX dX10_got_109 rfl ?_
            refine s_getR (r := 141) hX fo_RX10_91_9 SH_123 rfl dX10_got_110 ?_
            refine s_iload_n hX dX10_got_113 rfl ?_
            obtain ⟨c8, h⟩ := gd_some h
            refine s_iald hX SH_141 c8 dX10_got_114 ?_
            obtain ⟨c9, h⟩ := gd_some h
            refine s_iald hX SH_148 c9 dX10_got_115 ?_
            obtain ⟨rfl, rfl⟩ := rt2 h
            exact hret _ _ (nzi _) dX10_got_116
          · intro j7 hj7 h
            refine s_if_ne (tgt := 105) hX dX10_got_92 (by decide) (fun c13 => ?_) (fun c13 => ?_)
            · replace h := (if_neg c13).symm.trans h
              refine s_mask [true, true, false] ?_
              exact hj7 _ h
            · replace h := (if_pos c13).symm.trans h
              refine s_aload_n hX dX10_got_95 rfl ?_
              refine s_getR (r := 150) hX fo_RX10_118_9 SH_123 rfl dX10_got_96 ?_
              refine s_iconst 1 hX dX10_got_99 (by decide) ?_
              refine s_dup2 hX dX10_got_100 rfl rfl ?_
              obtain ⟨c10, h⟩ := gd_some h
              refine s_iald hX SH_150 c10 dX10_got_101 ?_
              refine s_iconst 1 hX dX10_got_102 (by decide) ?_
              refine s_iadd hX dX10_got_103 ?_
              obtain ⟨c11, h⟩ := gd_some h
              obtain ⟨σ12, eσ12, h⟩ := bd_some h
              refine s_iast hX SH_150 c11 dX10_got_104 ?_
              refine s_mem σ12 eσ12 ?_
              refine s_mask [true, true, false] ?_
              exact hj7 _ h
        · replace h := (if_neg c15).symm.trans h
          refine s_aload_n hX dX10_got_80 rfl ?_
          refine s_getR (r := 147) hX fo_RX10_109_9 SH_123 rfl dX10_got_81 ?_
          refine s_iload_n hX dX10_got_84 rfl ?_
          obtain ⟨c14, h⟩ := gd_some h
          refine s_iald hX SH_147 c14 dX10_got_85 ?_
          obtain ⟨rfl, rfl⟩ := rt2 h
          exact hret _ _ (nzi _) dX10_got_86
      · replace h := (if_pos c21).symm.trans h
        refine s_aload_n hX dX10_got_45 rfl ?_
        refine s_getR (r := 150) hX fo_RX10_118_9 SH_123 rfl dX10_got_46 ?_
        refine s_iconst 3 hX dX10_got_49 (by decide) ?_
        refine s_dup2 hX dX10_got_50 rfl rfl ?_
        obtain ⟨c16, h⟩ := gd_some h
        refine s_iald hX SH_150 c16 dX10_got_51 ?_
        refine s_iconst 1 hX dX10_got_52 (by decide) ?_
        refine s_iadd hX dX10_got_53 ?_
        obtain ⟨c17, h⟩ := gd_some h
        obtain ⟨σ18, eσ18, h⟩ := bd_some h
        refine s_iast hX SH_150 c17 dX10_got_54 ?_
        refine s_mem σ18 eσ18 ?_
        refine s_aload_n hX dX10_got_55 rfl ?_
        refine s_getR (r := 132) hX fo_RX10_48_9 SH_123 rfl dX10_got_56 ?_
        refine s_aload_n hX dX10_got_59 rfl ?_
        refine s_iload_n hX dX10_got_60 rfl ?_
        obtain ⟨r19, hc, h⟩ := bn_some h
        refine s_callVI _ hX (cX10_constantRow_ok (sl X)  hc) SH_123 mv_RX10_295_9 (fun _ => rfl) (by decide) (Nat.le_of_ble_eq_true rfl) hcs dX10_got_61 rfl ?_
        obtain ⟨c20, h⟩ := gd_some h
        refine s_iald hX SH_132 c20 dX10_got_64 ?_
        obtain ⟨rfl, rfl⟩ := rt2 h
        exact hret _ _ (nzi _) dX10_got_65
    · replace h := (if_pos c24).symm.trans h
      refine s_aload_n hX dX10_got_23 rfl ?_
      refine s_getR (r := 147) hX fo_RX10_109_9 SH_123 rfl dX10_got_24 ?_
      refine s_aload_n hX dX10_got_27 rfl ?_
      refine s_getR (r := 140) hX fo_RX10_88_9 SH_123 rfl dX10_got_28 ?_
      refine s_iload_n hX dX10_got_31 rfl ?_
      obtain ⟨c22, h⟩ := gd_some h
      refine s_iald hX SH_140 c22 dX10_got_32 ?_
      obtain ⟨c23, h⟩ := gd_some h
      refine s_iald hX SH_147 c23 dX10_got_33 ?_
      obtain ⟨rfl, rfl⟩ := rt2 h
      exact hret _ _ (nzi _) dX10_got_34
  · replace h := (if_pos c26).symm.trans h
    refine s_aload_n hX dX10_got_7 rfl ?_
    refine s_getR (r := 146) hX fo_RX10_106_9 SH_123 rfl dX10_got_8 ?_
    refine s_iload_n hX dX10_got_11 rfl ?_
    obtain ⟨c25, h⟩ := gd_some h
    refine s_iald hX SH_146 c25 dX10_got_12 ?_
    obtain ⟨rfl, rfl⟩ := rt2 h
    exact hret _ _ (nzi _) dX10_got_13
def fX10_puts (σ : Mm) (l1 : Int32) (l2 : Int32) : Option Mm :=
  gd l1 12 <|
  bd (upm σ 146 (upd (σ 146) l1.toNatClampNeg l2)) fun σ2 =>
  if (σ2 123 40) = 0 then
  some σ2
else
  gd l1 12 <|
  if (σ2 139 l1.toNatClampNeg) = 2 then
  some σ2
else
  gd l1 12 <|
  jn (fun (v5 : Int32) => if v5 < 0 then
  bn2 (fX10_holds σ2 l1) fun r7 σ8 =>
  gd l1 12 <|
  gd (σ8 141 l1.toNatClampNeg) 12 <|
  bd (upm σ8 148 (upd (σ8 148) (σ8 141 l1.toNatClampNeg).toNatClampNeg l2)) fun σ11 =>
  gd 2 4 <|
  gd 2 4 <|
  bd (upm σ11 150 (upd (σ11 150) (Int32.toNatClampNeg 2) ((σ11 150 (Int32.toNatClampNeg 2)) + 1))) fun σ14 =>
  some σ14
else
  gd v5 12 <|
  bd (upm σ2 147 (upd (σ2 147) v5.toNatClampNeg l2)) fun σ16 =>
  some σ16) fun j6 =>
  if (σ2 139 l1.toNatClampNeg) = 0 then
  gd l1 12 <|
  j6 (σ2 140 l1.toNatClampNeg)
else
  (fX10_colourOf σ2 l1 (σ2 123 39)).bind fun r18 =>
  j6 r18
set_option maxHeartbeats 4000000 in
theorem cX10_puts_ok (l : Launch) {σ : Mm} {l1 : Int32} {l2 : Int32} {σ' : Mm}  (h : fX10_puts σ l1 l2 = some σ') : cV l yX10_puts cX10_puts 5 2 44 (fun ad => [.ref (ad 123), .int l1, .int l2]) σ σ' := by
  refine c_enterV (fun ad => [some (.ref (ad 123)), some (.int l1), some (.int l2), none, none]) (by decide) (fun ad => ⟨by simp [Value.category], Nat.le_of_ble_eq_true rfl⟩) (fun ad => ⟨2, rfl⟩) ?_
  intro X _ hX hret
  have hcs : ((0 : Nat), (0 : Nat)).1 ≤ (sR X).cells ∧ ((0 : Nat), (0 : Nat)).2 ≤ (sR X).slots := ⟨Nat.zero_le _, Nat.zero_le _⟩
  generalize hcs0 : ((0 : Nat), (0 : Nat)) = cs at hcs hret ⊢
  unfold fX10_puts at h
  show sW X 5 cs σ 0 [some (.ref (sad X 123)), some (.int l1), some (.int l2), none, none] []
  refine s_aload_n hX dX10_puts_0 rfl ?_
  refine s_getR (r := 146) hX fo_RX10_106_9 SH_123 rfl dX10_puts_1 ?_
  refine s_iload_n hX dX10_puts_4 rfl ?_
  refine s_iload_n hX dX10_puts_5 rfl ?_
  obtain ⟨c1, h⟩ := gd_some h
  obtain ⟨σ2, eσ2, h⟩ := bd_some h
  refine s_iast hX SH_146 c1 dX10_puts_6 ?_
  refine s_mem σ2 eσ2 ?_
  refine s_aload_n hX dX10_puts_7 rfl ?_
  refine s_getI hX fo_RX10_136_9 SH_123 rfl dX10_puts_8 ?_
  refine s_if_eq (tgt := 24) hX dX10_puts_11 (by decide) (fun c22 => ?_) (fun c22 => ?_)
  · replace h := (if_pos c22).symm.trans h
    obtain rfl := rt1 h
    exact hret _ _ dX10_puts_24
  · replace h := (if_neg c22).symm.trans h
    refine s_aload_n hX dX10_puts_14 rfl ?_
    refine s_getR (r := 139) hX fo_RX10_85_9 SH_123 rfl dX10_puts_15 ?_
    refine s_iload_n hX dX10_puts_18 rfl ?_
    obtain ⟨c3, h⟩ := gd_some h
    refine s_iald hX SH_139 c3 dX10_puts_19 ?_
    refine s_iconst 2 hX dX10_puts_20 (by decide) ?_
    refine s_ic_ne (tgt := 25) hX dX10_puts_21 (by decide) (fun c21 => ?_) (fun c21 => ?_)
    · replace h := (if_neg c21).symm.trans h
      refine s_aload_n hX dX10_puts_25 rfl ?_
      refine s_getR (r := 139) hX fo_RX10_85_9 SH_123 rfl dX10_puts_26 ?_
      refine s_iload_n hX dX10_puts_29 rfl ?_
      obtain ⟨c4, h⟩ := gd_some h
      refine s_iald hX SH_139 c4 dX10_puts_30 ?_
      refine jn_use (fun j => ∀ (v5 : Int32), j v5 = some σ' → sW X 5 cs σ2 52 [some (.ref (sad X 123)), some (.int l1), some (.int l2), none, none] [.int v5]) h ?_ ?_
      · intro v5 h
        refine s_istore_n hX dX10_puts_52 (by decide) ?_
        refine s_iload_n hX dX10_puts_53 rfl ?_
        refine s_if_lt (tgt := 65) hX dX10_puts_54 (by decide) (fun c17 => ?_) (fun c17 => ?_)
        · replace h := (if_pos c17).symm.trans h
          refine s_aload_n hX dX10_puts_65 rfl ?_
          refine s_iload_n hX dX10_puts_66 rfl ?_
          obtain ⟨r7, σ8, hc, h⟩ := bn2_some h
          refine s_callVI _ hX (cX10_holds_ok (sl X)  hc) SH_123 mv_RX10_353_9 (fun _ => rfl) (by decide) (Nat.le_of_ble_eq_true rfl) hcs dX10_puts_67 rfl ?_
          refine s_istore hX dX10_puts_70 (by decide) ?_
          refine s_aload_n hX dX10_puts_72 rfl ?_
          refine s_getR (r := 148) hX fo_RX10_112_9 SH_123 rfl dX10_puts_73 ?_
          refine s_aload_n hX dX10_puts_76 rfl ?_
          refine s_getR (r := 141) hX fo_RX10_91_9 SH_123 rfl dX10_puts_77 ?_
          refine s_iload_n hX dX10_puts_80 rfl ?_
          obtain ⟨c9, h⟩ := gd_some h
          refine s_iald hX SH_141 c9 dX10_puts_81 ?_
          refine s_iload_n hX dX10_puts_82 rfl ?_
          obtain ⟨c10, h⟩ := gd_some h
          obtain ⟨σ11, eσ11, h⟩ := bd_some h
          refine s_iast hX SH_148 c10 dX10_puts_83 ?_
          refine s_mem σ11 eσ11 ?_
          refine s_aload_n hX dX10_puts_84 rfl ?_
          refine s_getR (r := 150) hX fo_RX10_118_9 SH_123 rfl dX10_puts_85 ?_
          refine s_iconst 2 hX dX10_puts_88 (by decide) ?_
          refine s_dup2 hX dX10_puts_89 rfl rfl ?_
          obtain ⟨c12, h⟩ := gd_some h
          refine s_iald hX SH_150 c12 dX10_puts_90 ?_
          refine s_iconst 1 hX dX10_puts_91 (by decide) ?_
          refine s_iadd hX dX10_puts_92 ?_
          obtain ⟨c13, h⟩ := gd_some h
          obtain ⟨σ14, eσ14, h⟩ := bd_some h
          refine s_iast hX SH_150 c13 dX10_puts_93 ?_
          refine s_mem σ14 eσ14 ?_
          obtain rfl := rt1 h
          exact hret _ _ dX10_puts_94
        · replace h := (if_neg c17).symm.trans h
          refine s_aload_n hX dX10_puts_57 rfl ?_
          refine s_getR (r := 147) hX fo_RX10_109_9 SH_123 rfl dX10_puts_58 ?_
          refine s_iload_n hX dX10_puts_61 rfl ?_
          refine s_iload_n hX dX10_puts_62 rfl ?_
          obtain ⟨c15, h⟩ := gd_some h
          obtain ⟨σ16, eσ16, h⟩ := bd_some h
          refine s_iast hX SH_147 c15 dX10_puts_63 ?_
          refine s_mem σ16 eσ16 ?_
          obtain rfl := rt1 h
          exact hret _ _ dX10_puts_64
      · intro j6 hj6 h
        refine s_if_ne (tgt := 43) hX dX10_puts_31 (by decide) (fun c20 => ?_) (fun c20 => ?_)
        · replace h := (if_neg c20).symm.trans h
          refine s_aload_n hX dX10_puts_43 rfl ?_
          refine s_iload_n hX dX10_puts_44 rfl ?_
          refine s_aload_n hX dX10_puts_45 rfl ?_
          refine s_getI hX fo_RX10_133_9 SH_123 rfl dX10_puts_46 ?_
          obtain ⟨r18, hc, h⟩ := bn_some h
          refine s_callVI _ hX (cX10_colourOf_ok (sl X)  hc) SH_123 mv_RX10_350_9 (fun _ => rfl) (by decide) (Nat.le_of_ble_eq_true rfl) hcs dX10_puts_49 rfl ?_
          refine s_mask [true, true, true, false, false] ?_
          exact hj6 _ h
        · replace h := (if_pos c20).symm.trans h
          refine s_aload_n hX dX10_puts_34 rfl ?_
          refine s_getR (r := 140) hX fo_RX10_88_9 SH_123 rfl dX10_puts_35 ?_
          refine s_iload_n hX dX10_puts_38 rfl ?_
          obtain ⟨c19, h⟩ := gd_some h
          refine s_iald hX SH_140 c19 dX10_puts_39 ?_
          refine s_goto (tgt := 52) hX dX10_puts_40 (by decide) ?_
          refine s_mask [true, true, true, false, false] ?_
          exact hj6 _ h
    · replace h := (if_pos c21).symm.trans h
      obtain rfl := rt1 h
      exact hret _ _ dX10_puts_24
def fX10_does (σ : Mm) (l1 : Int32) : Option Mm :=
  gd l1 64 <|
  if (σ 130 l1.toNatClampNeg) = 0 then
  gd l1 64 <|
  gd l1 64 <|
  (fX10_puts σ (σ 131 l1.toNatClampNeg) (σ 132 l1.toNatClampNeg)).bind fun σ29 =>
  some σ29
else
  gd l1 64 <|
  bn2 (fX10_got σ (σ 132 l1.toNatClampNeg)) fun r3 σ4 =>
  gd l1 64 <|
  jn (fun (σ6 : Mm) (v7 : Int32) => gd l1 64 <|
  gd l1 64 <|
  if (σ6 130 l1.toNatClampNeg) = 1 then
  (fX10_puts σ6 (σ6 131 l1.toNatClampNeg) r3).bind fun σ18 =>
  some σ18
else
  gd l1 64 <|
  if (σ6 130 l1.toNatClampNeg) = 2 then
  (fX10_puts σ6 (σ6 131 l1.toNatClampNeg) (r3 + v7)).bind fun σ16 =>
  some σ16
else
  gd l1 64 <|
  if (σ6 130 l1.toNatClampNeg) = 3 then
  (fX10_puts σ6 (σ6 131 l1.toNatClampNeg) (r3 - v7)).bind fun σ14 =>
  some σ14
else
  (fX10_puts σ6 (σ6 131 l1.toNatClampNeg) (r3 * v7)).bind fun σ13 =>
  some σ13) fun j8 =>
  if 2 ≤ (σ4 130 l1.toNatClampNeg) then
  gd l1 64 <|
  gd l1 64 <|
  if (σ4 133 l1.toNatClampNeg) = (σ4 132 l1.toNatClampNeg) then
  j8 σ4 r3
else
  gd l1 64 <|
  bn2 (fX10_got σ4 (σ4 133 l1.toNatClampNeg)) fun r23 σ24 =>
  j8 σ24 r23
else
  j8 σ4 0
set_option maxHeartbeats 4000000 in
theorem cX10_does_ok (l : Launch) {σ : Mm} {l1 : Int32} {σ' : Mm}  (h : fX10_does σ l1 = some σ') : cV l yX10_does cX10_does 4 3 68 (fun ad => [.ref (ad 123), .int l1]) σ σ' := by
  refine c_enterV (fun ad => [some (.ref (ad 123)), some (.int l1), none, none]) (by decide) (fun ad => ⟨by simp [Value.category], Nat.le_of_ble_eq_true rfl⟩) (fun ad => ⟨2, rfl⟩) ?_
  intro X _ hX hret
  have hcs : ((0 : Nat), (0 : Nat)).1 ≤ (sR X).cells ∧ ((0 : Nat), (0 : Nat)).2 ≤ (sR X).slots := ⟨Nat.zero_le _, Nat.zero_le _⟩
  generalize hcs0 : ((0 : Nat), (0 : Nat)) = cs at hcs hret ⊢
  unfold fX10_does at h
  show sW X 4 cs σ 0 [some (.ref (sad X 123)), some (.int l1), none, none] []
  refine s_aload_n hX dX10_does_0 rfl ?_
  refine s_getR (r := 130) hX fo_RX10_42_9 SH_123 rfl dX10_does_1 ?_
  refine s_iload_n hX dX10_does_4 rfl ?_
  obtain ⟨c1, h⟩ := gd_some h
  refine s_iald hX SH_130 c1 dX10_does_5 ?_
  refine s_if_ne (tgt := 26) hX dX10_does_6 (by decide) (fun c30 => ?_) (fun c30 => ?_)
  · replace h := (if_neg c30).symm.trans h
    refine s_aload_n hX dX10_does_26 rfl ?_
    refine s_aload_n hX dX10_does_27 rfl ?_
    refine s_getR (r := 132) hX fo_RX10_48_9 SH_123 rfl dX10_does_28 ?_
    refine s_iload_n hX dX10_does_31 rfl ?_
    obtain ⟨c2, h⟩ := gd_some h
    refine s_iald hX SH_132 c2 dX10_does_32 ?_
    obtain ⟨r3, σ4, hc, h⟩ := bn2_some h
    refine s_callVI _ hX (cX10_got_ok (sl X)  hc) SH_123 mv_RX10_359_9 (fun _ => rfl) (by decide) (Nat.le_of_ble_eq_true rfl) hcs dX10_does_33 rfl ?_
    refine s_istore_n hX dX10_does_36 (by decide) ?_
    refine s_aload_n hX dX10_does_37 rfl ?_
    refine s_getR (r := 130) hX fo_RX10_42_9 SH_123 rfl dX10_does_38 ?_
    refine s_iload_n hX dX10_does_41 rfl ?_
    obtain ⟨c5, h⟩ := gd_some h
    refine s_iald hX SH_130 c5 dX10_does_42 ?_
    refine s_iconst 2 hX dX10_does_43 (by decide) ?_
    refine jn_use (fun j => ∀ (σ6 : Mm) (v7 : Int32), j σ6 v7 = some σ' → sW X 4 cs σ6 80 [some (.ref (sad X 123)), some (.int l1), some (.int r3), none] [.int v7]) h ?_ ?_
    · intro σ6 v7 h
      refine s_istore_n hX dX10_does_80 (by decide) ?_
      refine s_aload_n hX dX10_does_81 rfl ?_
      refine s_aload_n hX dX10_does_82 rfl ?_
      refine s_getR (r := 131) hX fo_RX10_45_9 SH_123 rfl dX10_does_83 ?_
      refine s_iload_n hX dX10_does_86 rfl ?_
      obtain ⟨c9, h⟩ := gd_some h
      refine s_iald hX SH_131 c9 dX10_does_87 ?_
      refine s_aload_n hX dX10_does_88 rfl ?_
      refine s_getR (r := 130) hX fo_RX10_42_9 SH_123 rfl dX10_does_89 ?_
      refine s_iload_n hX dX10_does_92 rfl ?_
      obtain ⟨c10, h⟩ := gd_some h
      refine s_iald hX SH_130 c10 dX10_does_93 ?_
      refine s_iconst 1 hX dX10_does_94 (by decide) ?_
      refine s_ic_ne (tgt := 102) hX dX10_does_95 (by decide) (fun c19 => ?_) (fun c19 => ?_)
      · replace h := (if_neg c19).symm.trans h
        refine s_aload_n hX dX10_does_102 rfl ?_
        refine s_getR (r := 130) hX fo_RX10_42_9 SH_123 rfl dX10_does_103 ?_
        refine s_iload_n hX dX10_does_106 rfl ?_
        obtain ⟨c11, h⟩ := gd_some h
        refine s_iald hX SH_130 c11 dX10_does_107 ?_
        refine s_iconst 2 hX dX10_does_108 (by decide) ?_
        refine s_ic_ne (tgt := 118) hX dX10_does_109 (by decide) (fun c17 => ?_) (fun c17 => ?_)
        · replace h := (if_neg c17).symm.trans h
          refine s_aload_n hX dX10_does_118 rfl ?_
          refine s_getR (r := 130) hX fo_RX10_42_9 SH_123 rfl dX10_does_119 ?_
          refine s_iload_n hX dX10_does_122 rfl ?_
          obtain ⟨c12, h⟩ := gd_some h
          refine s_iald hX SH_130 c12 dX10_does_123 ?_
          refine s_iconst 3 hX dX10_does_124 (by decide) ?_
          refine s_ic_ne (tgt := 134) hX dX10_does_125 (by decide) (fun c15 => ?_) (fun c15 => ?_)
          · replace h := (if_neg c15).symm.trans h
            refine s_iload_n hX dX10_does_134 rfl ?_
            refine s_iload_n hX dX10_does_135 rfl ?_
            refine s_imul hX dX10_does_136 ?_
            obtain ⟨σ13, hc, h⟩ := bn_some h
            refine s_callVV _ hX (cX10_puts_ok (sl X)  hc) SH_123 mv_RX10_356_9 (fun _ => rfl) (by decide) (Nat.le_of_ble_eq_true rfl) hcs dX10_does_137 rfl ?_
            obtain rfl := rt1 h
            exact hret _ _ dX10_does_140
          · replace h := (if_pos c15).symm.trans h
            refine s_iload_n hX dX10_does_128 rfl ?_
            refine s_iload_n hX dX10_does_129 rfl ?_
            refine s_isub hX dX10_does_130 ?_
            refine s_goto (tgt := 137) hX dX10_does_131 (by decide) ?_
            obtain ⟨σ14, hc, h⟩ := bn_some h
            refine s_callVV _ hX (cX10_puts_ok (sl X)  hc) SH_123 mv_RX10_356_9 (fun _ => rfl) (by decide) (Nat.le_of_ble_eq_true rfl) hcs dX10_does_137 rfl ?_
            obtain rfl := rt1 h
            exact hret _ _ dX10_does_140
        · replace h := (if_pos c17).symm.trans h
          refine s_iload_n hX dX10_does_112 rfl ?_
          refine s_iload_n hX dX10_does_113 rfl ?_
          refine s_iadd hX dX10_does_114 ?_
          refine s_goto (tgt := 137) hX dX10_does_115 (by decide) ?_
          obtain ⟨σ16, hc, h⟩ := bn_some h
          refine s_callVV _ hX (cX10_puts_ok (sl X)  hc) SH_123 mv_RX10_356_9 (fun _ => rfl) (by decide) (Nat.le_of_ble_eq_true rfl) hcs dX10_does_137 rfl ?_
          obtain rfl := rt1 h
          exact hret _ _ dX10_does_140
      · replace h := (if_pos c19).symm.trans h
        refine s_iload_n hX dX10_does_98 rfl ?_
        refine s_goto (tgt := 137) hX dX10_does_99 (by decide) ?_
        obtain ⟨σ18, hc, h⟩ := bn_some h
        refine s_callVV _ hX (cX10_puts_ok (sl X)  hc) SH_123 mv_RX10_356_9 (fun _ => rfl) (by decide) (Nat.le_of_ble_eq_true rfl) hcs dX10_does_137 rfl ?_
        obtain rfl := rt1 h
        exact hret _ _ dX10_does_140
    · intro j8 hj8 h
      refine s_ic_ge (tgt := 51) hX dX10_does_44 (by decide) (fun c26 => ?_) (fun c26 => ?_)
      · replace h := (if_pos c26).symm.trans h
        refine s_aload_n hX dX10_does_51 rfl ?_
        refine s_getR (r := 133) hX fo_RX10_51_9 SH_123 rfl dX10_does_52 ?_
        refine s_iload_n hX dX10_does_55 rfl ?_
        obtain ⟨c20, h⟩ := gd_some h
        refine s_iald hX SH_133 c20 dX10_does_56 ?_
        refine s_aload_n hX dX10_does_57 rfl ?_
        refine s_getR (r := 132) hX fo_RX10_48_9 SH_123 rfl dX10_does_58 ?_
        refine s_iload_n hX dX10_does_61 rfl ?_
        obtain ⟨c21, h⟩ := gd_some h
        refine s_iald hX SH_132 c21 dX10_does_62 ?_
        refine s_ic_ne (tgt := 70) hX dX10_does_63 (by decide) (fun c25 => ?_) (fun c25 => ?_)
        · replace h := (if_neg c25).symm.trans h
          refine s_aload_n hX dX10_does_70 rfl ?_
          refine s_aload_n hX dX10_does_71 rfl ?_
          refine s_getR (r := 133) hX fo_RX10_51_9 SH_123 rfl dX10_does_72 ?_
          refine s_iload_n hX dX10_does_75 rfl ?_
          obtain ⟨c22, h⟩ := gd_some h
          refine s_iald hX SH_133 c22 dX10_does_76 ?_
          obtain ⟨r23, σ24, hc, h⟩ := bn2_some h
          refine s_callVI _ hX (cX10_got_ok (sl X)  hc) SH_123 mv_RX10_359_9 (fun _ => rfl) (by decide) (Nat.le_of_ble_eq_true rfl) hcs dX10_does_77 rfl ?_
          refine s_mask [true, true, true, false] ?_
          exact hj8 _ _ h
        · replace h := (if_pos c25).symm.trans h
          refine s_iload_n hX dX10_does_66 rfl ?_
          refine s_goto (tgt := 80) hX dX10_does_67 (by decide) ?_
          refine s_mask [true, true, true, false] ?_
          exact hj8 _ _ h
      · replace h := (if_neg c26).symm.trans h
        refine s_iconst 0 hX dX10_does_47 (by decide) ?_
        refine s_goto (tgt := 80) hX dX10_does_48 (by decide) ?_
        refine s_mask [true, true, true, false] ?_
        exact hj8 _ _ h
  · replace h := (if_pos c30).symm.trans h
    refine s_aload_n hX dX10_does_9 rfl ?_
    refine s_aload_n hX dX10_does_10 rfl ?_
    refine s_getR (r := 131) hX fo_RX10_45_9 SH_123 rfl dX10_does_11 ?_
    refine s_iload_n hX dX10_does_14 rfl ?_
    obtain ⟨c27, h⟩ := gd_some h
    refine s_iald hX SH_131 c27 dX10_does_15 ?_
    refine s_aload_n hX dX10_does_16 rfl ?_
    refine s_getR (r := 132) hX fo_RX10_48_9 SH_123 rfl dX10_does_17 ?_
    refine s_iload_n hX dX10_does_20 rfl ?_
    obtain ⟨c28, h⟩ := gd_some h
    refine s_iald hX SH_132 c28 dX10_does_21 ?_
    obtain ⟨σ29, hc, h⟩ := bn_some h
    refine s_callVV _ hX (cX10_puts_ok (sl X)  hc) SH_123 mv_RX10_356_9 (fun _ => rfl) (by decide) (Nat.le_of_ble_eq_true rfl) hcs dX10_does_22 rfl ?_
    obtain rfl := rt1 h
    exact hret _ _ dX10_does_25
def gX10_goesInto_65 (l1 : Int32) (l2 : Int32) (l3 : Int32) (l4 : Int32) (rec : Mm × Int32 → Option (Mm)) (σ : Mm) (x5 : Int32) : Option (Mm) :=
  if 12 ≤ x5 then
  some σ
else
  gd ((8 * x5) + l3) 96 <|
  if (σ 142 ((8 * x5) + l3).toNatClampNeg) < 0 then
  bd (x5 + 1) fun v2 =>
  rec (σ, v2)
else
  (fX10_has σ l4 x5).bind fun r3 =>
  if r3 = 0 then
  bd (x5 + 1) fun v13 =>
  rec (σ, v13)
else
  gd x5 12 <|
  gd ((8 * x5) + l3) 96 <|
  gd (σ 142 ((8 * x5) + l3).toNatClampNeg) 12 <|
  gd (σ 141 x5.toNatClampNeg) 12 <|
  bd (upm σ 148 (upd (σ 148) (σ 141 x5.toNatClampNeg).toNatClampNeg (σ 147 (σ 142 ((8 * x5) + l3).toNatClampNeg).toNatClampNeg))) fun σ8 =>
  gd 2 4 <|
  gd 2 4 <|
  bd (upm σ8 150 (upd (σ8 150) (Int32.toNatClampNeg 2) ((σ8 150 (Int32.toNatClampNeg 2)) + 1))) fun σ11 =>
  bd (x5 + 1) fun v12 =>
  rec (σ11, v12)
def qX10_goesInto_65 (l1 : Int32) (l2 : Int32) (l3 : Int32) (l4 : Int32) : Nat → Mm × Int32 → Option (Mm) := lp (fun rec s => gX10_goesInto_65 l1 l2 l3 l4 rec s.1 s.2)
def gX10_goesInto_2 (l1 : Int32) (l2 : Int32) (rec : Mm × Int32 → Option (Mm)) (σ : Mm) (x3 : Int32) : Option (Mm) :=
  if (σ 123 17) ≤ x3 then
  some σ
else
  if l1 < 0 then
  bd (x3 + 1) fun v1 =>
  rec (σ, v1)
else
  gd x3 8 <|
  (fX10_has σ (σ 138 x3.toNatClampNeg) l1).bind fun r3 =>
  if r3 = 0 then
  bd (x3 + 1) fun v4 =>
  rec (σ, v4)
else
  gd x3 8 <|
  (fX10_has σ (σ 138 x3.toNatClampNeg) l2).bind fun r6 =>
  if r6 = 0 then
  gd x3 8 <|
  (fX10_targetsIn σ (σ 138 x3.toNatClampNeg)).bind fun r8 =>
  gd l2 8 <|
  bd (r8 &&& (σ 135 l2.toNatClampNeg)) fun v10 =>
  (qX10_goesInto_65 l1 l2 x3 v10 FU (σ, 0)).bind fun σ11 =>
  bd (x3 + 1) fun v12 =>
  rec (σ11, v12)
else
  bd (x3 + 1) fun v13 =>
  rec (σ, v13)
def qX10_goesInto_2 (l1 : Int32) (l2 : Int32) : Nat → Mm × Int32 → Option (Mm) := lp (fun rec s => gX10_goesInto_2 l1 l2 rec s.1 s.2)
def gX10_goesInto_194 (l1 : Int32) (l2 : Int32) (l3 : Int32) (rec : Mm × Int32 → Option (Mm)) (σ : Mm) (x4 : Int32) : Option (Mm) :=
  if 12 ≤ x4 then
  some σ
else
  gd ((8 * x4) + l3) 96 <|
  if (σ 142 ((8 * x4) + l3).toNatClampNeg) < 0 then
  bd (x4 + 1) fun v2 =>
  rec (σ, v2)
else
  gd l2 8 <|
  (fX10_has σ (σ 135 l2.toNatClampNeg) x4).bind fun r4 =>
  if r4 = 0 then
  bd (x4 + 1) fun v14 =>
  rec (σ, v14)
else
  gd ((8 * x4) + l3) 96 <|
  gd x4 12 <|
  gd (σ 141 x4.toNatClampNeg) 12 <|
  gd (σ 142 ((8 * x4) + l3).toNatClampNeg) 12 <|
  bd (upm σ 147 (upd (σ 147) (σ 142 ((8 * x4) + l3).toNatClampNeg).toNatClampNeg (σ 148 (σ 141 x4.toNatClampNeg).toNatClampNeg))) fun σ9 =>
  gd 1 4 <|
  gd 1 4 <|
  bd (upm σ9 150 (upd (σ9 150) (Int32.toNatClampNeg 1) ((σ9 150 (Int32.toNatClampNeg 1)) + 1))) fun σ12 =>
  bd (x4 + 1) fun v13 =>
  rec (σ12, v13)
def qX10_goesInto_194 (l1 : Int32) (l2 : Int32) (l3 : Int32) : Nat → Mm × Int32 → Option (Mm) := lp (fun rec s => gX10_goesInto_194 l1 l2 l3 rec s.1 s.2)
def gX10_goesInto_153 (l1 : Int32) (l2 : Int32) (rec : Mm × Int32 → Option (Mm)) (σ : Mm) (x3 : Int32) : Option (Mm) :=
  if (σ 123 17) ≤ x3 then
  some σ
else
  gd x3 8 <|
  if (σ 137 x3.toNatClampNeg) = l2 then
  jn (fun (_u : Unit) => (qX10_goesInto_194 l1 l2 x3 FU (σ, 0)).bind fun σ4 =>
  bd (x3 + 1) fun v5 =>
  rec (σ4, v5)) fun j3 =>
  if l1 < 0 then
  j3 ()
else
  gd x3 8 <|
  (fX10_has σ (σ 138 x3.toNatClampNeg) l1).bind fun r7 =>
  if r7 = 0 then
  j3 ()
else
  bd (x3 + 1) fun v8 =>
  rec (σ, v8)
else
  bd (x3 + 1) fun v2 =>
  rec (σ, v2)
def qX10_goesInto_153 (l1 : Int32) (l2 : Int32) : Nat → Mm × Int32 → Option (Mm) := lp (fun rec s => gX10_goesInto_153 l1 l2 rec s.1 s.2)
def fX10_goesInto (σ : Mm) (l1 : Int32) (l2 : Int32) : Option Mm :=
  (qX10_goesInto_2 l1 l2 FU (σ, 0)).bind fun σ1 =>
  (qX10_goesInto_153 l1 l2 FU (σ1, 0)).bind fun σ2 =>
  some σ2
set_option maxHeartbeats 4000000 in
theorem pX10_goesInto_65 {X : sT} {cs : Nat × Nat} (hX : sX X cX10_goesInto RX10 6 2 45) (hcs : cs.1 ≤ (sR X).cells ∧ cs.2 ≤ (sR X).slots) (l1 : Int32) (l2 : Int32) (l3 : Int32) (l4 : Int32)  : ∀ (n : Nat) (s : Mm × Int32) (r : Mm), qX10_goesInto_65 l1 l2 l3 l4 n s = some r → sW X 6 cs r 145 [some (.ref (sad X 123)), some (.int l1), some (.int l2), some (.int l3), none, none] [] → sW X 6 cs s.1 65 [some (.ref (sad X 123)), some (.int l1), some (.int l2), some (.int l3), some (.int l4), some (.int s.2)] [] := by
  refine lp_ind (P := fun (s : Mm × Int32) (r : Mm) => sW X 6 cs r 145 [some (.ref (sad X 123)), some (.int l1), some (.int l2), some (.int l3), none, none] [] → sW X 6 cs s.1 65 [some (.ref (sad X 123)), some (.int l1), some (.int l2), some (.int l3), some (.int l4), some (.int s.2)] []) ?_
  intro rec hrec s r h0 hk
  obtain ⟨σ, x5⟩ := s
  have h : gX10_goesInto_65 l1 l2 l3 l4 rec σ x5 = some r := h0
  unfold gX10_goesInto_65 at h
  show sW X 6 cs σ 65 [some (.ref (sad X 123)), some (.int l1), some (.int l2), some (.int l3), some (.int l4), some (.int x5)] []
  refine s_iload hX dX10_goesInto_65 rfl ?_
  refine s_bipush 12 hX dX10_goesInto_67 (by decide) ?_
  refine s_ic_ge (tgt := 145) hX dX10_goesInto_69 (by decide) (fun c16 => ?_) (fun c16 => ?_)
  · replace h := (if_pos c16).symm.trans h
    obtain rfl := rt1 h
    refine s_mask [true, true, true, true, false, false] ?_
    exact hk
  · replace h := (if_neg c16).symm.trans h
    refine s_aload_n hX dX10_goesInto_72 rfl ?_
    refine s_getR (r := 142) hX fo_RX10_94_9 SH_123 rfl dX10_goesInto_73 ?_
    refine s_bipush 8 hX dX10_goesInto_76 (by decide) ?_
    refine s_iload hX dX10_goesInto_78 rfl ?_
    refine s_imul hX dX10_goesInto_80 ?_
    refine s_iload_n hX dX10_goesInto_81 rfl ?_
    refine s_iadd hX dX10_goesInto_82 ?_
    obtain ⟨c1, h⟩ := gd_some h
    refine s_iald hX SH_142 c1 dX10_goesInto_83 ?_
    refine s_if_lt (tgt := 139) hX dX10_goesInto_84 (by decide) (fun c15 => ?_) (fun c15 => ?_)
    · replace h := (if_pos c15).symm.trans h
      obtain ⟨v2, ev2, h⟩ := bd_some h
      refine s_iinc v2 hX dX10_goesInto_139 rfl (by rw [ev2]; rfl) (by decide) ?_
      refine s_goto (tgt := 65) hX dX10_goesInto_142 (by decide) ?_
      refine s_mask [true, true, true, true, true, true] ?_
      exact hrec _ _ h hk
    · replace h := (if_neg c15).symm.trans h
      refine s_iload hX dX10_goesInto_87 rfl ?_
      refine s_iload hX dX10_goesInto_89 rfl ?_
      obtain ⟨r3, hc, h⟩ := bn_some h
      refine s_callSI _ hX (cX10_has_ok (sl X)  hc) ms_RX10_255 (fun _ => rfl) (by decide) (Nat.le_of_ble_eq_true rfl) hcs dX10_goesInto_91 rfl ?_
      refine s_if_ne (tgt := 100) hX dX10_goesInto_94 (by decide) (fun c14 => ?_) (fun c14 => ?_)
      · replace h := (if_neg c14).symm.trans h
        refine s_aload_n hX dX10_goesInto_100 rfl ?_
        refine s_getR (r := 148) hX fo_RX10_112_9 SH_123 rfl dX10_goesInto_101 ?_
        refine s_aload_n hX dX10_goesInto_104 rfl ?_
        refine s_getR (r := 141) hX fo_RX10_91_9 SH_123 rfl dX10_goesInto_105 ?_
        refine s_iload hX dX10_goesInto_108 rfl ?_
        obtain ⟨c4, h⟩ := gd_some h
        refine s_iald hX SH_141 c4 dX10_goesInto_110 ?_
        refine s_aload_n hX dX10_goesInto_111 rfl ?_
        refine s_getR (r := 147) hX fo_RX10_109_9 SH_123 rfl dX10_goesInto_112 ?_
        refine s_aload_n hX dX10_goesInto_115 rfl ?_
        refine s_getR (r := 142) hX fo_RX10_94_9 SH_123 rfl dX10_goesInto_116 ?_
        refine s_bipush 8 hX dX10_goesInto_119 (by decide) ?_
        refine s_iload hX dX10_goesInto_121 rfl ?_
        refine s_imul hX dX10_goesInto_123 ?_
        refine s_iload_n hX dX10_goesInto_124 rfl ?_
        refine s_iadd hX dX10_goesInto_125 ?_
        obtain ⟨c5, h⟩ := gd_some h
        refine s_iald hX SH_142 c5 dX10_goesInto_126 ?_
        obtain ⟨c6, h⟩ := gd_some h
        refine s_iald hX SH_147 c6 dX10_goesInto_127 ?_
        obtain ⟨c7, h⟩ := gd_some h
        obtain ⟨σ8, eσ8, h⟩ := bd_some h
        refine s_iast hX SH_148 c7 dX10_goesInto_128 ?_
        refine s_mem σ8 eσ8 ?_
        refine s_aload_n hX dX10_goesInto_129 rfl ?_
        refine s_getR (r := 150) hX fo_RX10_118_9 SH_123 rfl dX10_goesInto_130 ?_
        refine s_iconst 2 hX dX10_goesInto_133 (by decide) ?_
        refine s_dup2 hX dX10_goesInto_134 rfl rfl ?_
        obtain ⟨c9, h⟩ := gd_some h
        refine s_iald hX SH_150 c9 dX10_goesInto_135 ?_
        refine s_iconst 1 hX dX10_goesInto_136 (by decide) ?_
        refine s_iadd hX dX10_goesInto_137 ?_
        obtain ⟨c10, h⟩ := gd_some h
        obtain ⟨σ11, eσ11, h⟩ := bd_some h
        refine s_iast hX SH_150 c10 dX10_goesInto_138 ?_
        refine s_mem σ11 eσ11 ?_
        obtain ⟨v12, ev12, h⟩ := bd_some h
        refine s_iinc v12 hX dX10_goesInto_139 rfl (by rw [ev12]; rfl) (by decide) ?_
        refine s_goto (tgt := 65) hX dX10_goesInto_142 (by decide) ?_
        refine s_mask [true, true, true, true, true, true] ?_
        exact hrec _ _ h hk
      · replace h := (if_pos c14).symm.trans h
        refine s_goto (tgt := 139) hX dX10_goesInto_97 (by decide) ?_
        obtain ⟨v13, ev13, h⟩ := bd_some h
        refine s_iinc v13 hX dX10_goesInto_139 rfl (by rw [ev13]; rfl) (by decide) ?_
        refine s_goto (tgt := 65) hX dX10_goesInto_142 (by decide) ?_
        refine s_mask [true, true, true, true, true, true] ?_
        exact hrec _ _ h hk
set_option maxHeartbeats 4000000 in
theorem pX10_goesInto_2 {X : sT} {cs : Nat × Nat} (hX : sX X cX10_goesInto RX10 6 2 45) (hcs : cs.1 ≤ (sR X).cells ∧ cs.2 ≤ (sR X).slots) (l1 : Int32) (l2 : Int32)  : ∀ (n : Nat) (s : Mm × Int32) (r : Mm), qX10_goesInto_2 l1 l2 n s = some r → sW X 6 cs r 151 [some (.ref (sad X 123)), some (.int l1), some (.int l2), none, none, none] [] → sW X 6 cs s.1 2 [some (.ref (sad X 123)), some (.int l1), some (.int l2), some (.int s.2), none, none] [] := by
  refine lp_ind (P := fun (s : Mm × Int32) (r : Mm) => sW X 6 cs r 151 [some (.ref (sad X 123)), some (.int l1), some (.int l2), none, none, none] [] → sW X 6 cs s.1 2 [some (.ref (sad X 123)), some (.int l1), some (.int l2), some (.int s.2), none, none] []) ?_
  intro rec hrec s r h0 hk
  obtain ⟨σ, x3⟩ := s
  have h : gX10_goesInto_2 l1 l2 rec σ x3 = some r := h0
  unfold gX10_goesInto_2 at h
  show sW X 6 cs σ 2 [some (.ref (sad X 123)), some (.int l1), some (.int l2), some (.int x3), none, none] []
  refine s_iload_n hX dX10_goesInto_2 rfl ?_
  refine s_aload_n hX dX10_goesInto_3 rfl ?_
  refine s_getI hX fo_RX10_67_9 SH_123 rfl dX10_goesInto_4 ?_
  refine s_ic_ge (tgt := 151) hX dX10_goesInto_7 (by decide) (fun c17 => ?_) (fun c17 => ?_)
  · replace h := (if_pos c17).symm.trans h
    obtain rfl := rt1 h
    refine s_mask [true, true, true, false, false, false] ?_
    exact hk
  · replace h := (if_neg c17).symm.trans h
    refine s_iload_n hX dX10_goesInto_10 rfl ?_
    refine s_if_lt (tgt := 145) hX dX10_goesInto_11 (by decide) (fun c16 => ?_) (fun c16 => ?_)
    · replace h := (if_pos c16).symm.trans h
      obtain ⟨v1, ev1, h⟩ := bd_some h
      refine s_iinc v1 hX dX10_goesInto_145 rfl (by rw [ev1]; rfl) (by decide) ?_
      refine s_goto (tgt := 2) hX dX10_goesInto_148 (by decide) ?_
      refine s_mask [true, true, true, true, false, false] ?_
      exact hrec _ _ h hk
    · replace h := (if_neg c16).symm.trans h
      refine s_aload_n hX dX10_goesInto_14 rfl ?_
      refine s_getR (r := 138) hX fo_RX10_73_9 SH_123 rfl dX10_goesInto_15 ?_
      refine s_iload_n hX dX10_goesInto_18 rfl ?_
      obtain ⟨c2, h⟩ := gd_some h
      refine s_iald hX SH_138 c2 dX10_goesInto_19 ?_
      refine s_iload_n hX dX10_goesInto_20 rfl ?_
      obtain ⟨r3, hc, h⟩ := bn_some h
      refine s_callSI _ hX (cX10_has_ok (sl X)  hc) ms_RX10_255 (fun _ => rfl) (by decide) (Nat.le_of_ble_eq_true rfl) hcs dX10_goesInto_21 rfl ?_
      refine s_if_eq (tgt := 145) hX dX10_goesInto_24 (by decide) (fun c15 => ?_) (fun c15 => ?_)
      · replace h := (if_pos c15).symm.trans h
        obtain ⟨v4, ev4, h⟩ := bd_some h
        refine s_iinc v4 hX dX10_goesInto_145 rfl (by rw [ev4]; rfl) (by decide) ?_
        refine s_goto (tgt := 2) hX dX10_goesInto_148 (by decide) ?_
        refine s_mask [true, true, true, true, false, false] ?_
        exact hrec _ _ h hk
      · replace h := (if_neg c15).symm.trans h
        refine s_aload_n hX dX10_goesInto_27 rfl ?_
        refine s_getR (r := 138) hX fo_RX10_73_9 SH_123 rfl dX10_goesInto_28 ?_
        refine s_iload_n hX dX10_goesInto_31 rfl ?_
        obtain ⟨c5, h⟩ := gd_some h
        refine s_iald hX SH_138 c5 dX10_goesInto_32 ?_
        refine s_iload_n hX dX10_goesInto_33 rfl ?_
        obtain ⟨r6, hc, h⟩ := bn_some h
        refine s_callSI _ hX (cX10_has_ok (sl X)  hc) ms_RX10_255 (fun _ => rfl) (by decide) (Nat.le_of_ble_eq_true rfl) hcs dX10_goesInto_34 rfl ?_
        refine s_if_eq (tgt := 43) hX dX10_goesInto_37 (by decide) (fun c14 => ?_) (fun c14 => ?_)
        · replace h := (if_pos c14).symm.trans h
          refine s_aload_n hX dX10_goesInto_43 rfl ?_
          refine s_aload_n hX dX10_goesInto_44 rfl ?_
          refine s_getR (r := 138) hX fo_RX10_73_9 SH_123 rfl dX10_goesInto_45 ?_
          refine s_iload_n hX dX10_goesInto_48 rfl ?_
          obtain ⟨c7, h⟩ := gd_some h
          refine s_iald hX SH_138 c7 dX10_goesInto_49 ?_
          obtain ⟨r8, hc, h⟩ := bn_some h
          refine s_callVI _ hX (cX10_targetsIn_ok (sl X)  hc) SH_123 mv_RX10_309_9 (fun _ => rfl) (by decide) (Nat.le_of_ble_eq_true rfl) hcs dX10_goesInto_50 rfl ?_
          refine s_aload_n hX dX10_goesInto_53 rfl ?_
          refine s_getR (r := 135) hX fo_RX10_61_9 SH_123 rfl dX10_goesInto_54 ?_
          refine s_iload_n hX dX10_goesInto_57 rfl ?_
          obtain ⟨c9, h⟩ := gd_some h
          refine s_iald hX SH_135 c9 dX10_goesInto_58 ?_
          refine s_iand hX dX10_goesInto_59 ?_
          obtain ⟨v10, ev10, h⟩ := bd_some h
          refine s_topi v10 ev10 ?_
          refine s_istore hX dX10_goesInto_60 (by decide) ?_
          refine s_iconst 0 hX dX10_goesInto_62 (by decide) ?_
          refine s_istore hX dX10_goesInto_63 (by decide) ?_
          obtain ⟨σ11, hc, h⟩ := bn_some h
          refine s_mask [true, true, true, true, true, true] ?_
          refine pX10_goesInto_65 hX hcs _ _ _ _ _ _ _ hc ?_
          obtain ⟨v12, ev12, h⟩ := bd_some h
          refine s_iinc v12 hX dX10_goesInto_145 rfl (by rw [ev12]; rfl) (by decide) ?_
          refine s_goto (tgt := 2) hX dX10_goesInto_148 (by decide) ?_
          refine s_mask [true, true, true, true, false, false] ?_
          exact hrec _ _ h hk
        · replace h := (if_neg c14).symm.trans h
          refine s_goto (tgt := 145) hX dX10_goesInto_40 (by decide) ?_
          obtain ⟨v13, ev13, h⟩ := bd_some h
          refine s_iinc v13 hX dX10_goesInto_145 rfl (by rw [ev13]; rfl) (by decide) ?_
          refine s_goto (tgt := 2) hX dX10_goesInto_148 (by decide) ?_
          refine s_mask [true, true, true, true, false, false] ?_
          exact hrec _ _ h hk
set_option maxHeartbeats 4000000 in
theorem pX10_goesInto_194 {X : sT} {cs : Nat × Nat} (hX : sX X cX10_goesInto RX10 6 2 45) (hcs : cs.1 ≤ (sR X).cells ∧ cs.2 ≤ (sR X).slots) (l1 : Int32) (l2 : Int32) (l3 : Int32)  : ∀ (n : Nat) (s : Mm × Int32) (r : Mm), qX10_goesInto_194 l1 l2 l3 n s = some r → sW X 6 cs r 278 [some (.ref (sad X 123)), some (.int l1), some (.int l2), some (.int l3), none, none] [] → sW X 6 cs s.1 194 [some (.ref (sad X 123)), some (.int l1), some (.int l2), some (.int l3), some (.int s.2), none] [] := by
  refine lp_ind (P := fun (s : Mm × Int32) (r : Mm) => sW X 6 cs r 278 [some (.ref (sad X 123)), some (.int l1), some (.int l2), some (.int l3), none, none] [] → sW X 6 cs s.1 194 [some (.ref (sad X 123)), some (.int l1), some (.int l2), some (.int l3), some (.int s.2), none] []) ?_
  intro rec hrec s r h0 hk
  obtain ⟨σ, x4⟩ := s
  have h : gX10_goesInto_194 l1 l2 l3 rec σ x4 = some r := h0
  unfold gX10_goesInto_194 at h
  show sW X 6 cs σ 194 [some (.ref (sad X 123)), some (.int l1), some (.int l2), some (.int l3), some (.int x4), none] []
  refine s_iload hX dX10_goesInto_194 rfl ?_
  refine s_bipush 12 hX dX10_goesInto_196 (by decide) ?_
  refine s_ic_ge (tgt := 278) hX dX10_goesInto_198 (by decide) (fun c17 => ?_) (fun c17 => ?_)
  · replace h := (if_pos c17).symm.trans h
    obtain rfl := rt1 h
    refine s_mask [true, true, true, true, false, false] ?_
    exact hk
  · replace h := (if_neg c17).symm.trans h
    refine s_aload_n hX dX10_goesInto_201 rfl ?_
    refine s_getR (r := 142) hX fo_RX10_94_9 SH_123 rfl dX10_goesInto_202 ?_
    refine s_bipush 8 hX dX10_goesInto_205 (by decide) ?_
    refine s_iload hX dX10_goesInto_207 rfl ?_
    refine s_imul hX dX10_goesInto_209 ?_
    refine s_iload_n hX dX10_goesInto_210 rfl ?_
    refine s_iadd hX dX10_goesInto_211 ?_
    obtain ⟨c1, h⟩ := gd_some h
    refine s_iald hX SH_142 c1 dX10_goesInto_212 ?_
    refine s_if_lt (tgt := 272) hX dX10_goesInto_213 (by decide) (fun c16 => ?_) (fun c16 => ?_)
    · replace h := (if_pos c16).symm.trans h
      obtain ⟨v2, ev2, h⟩ := bd_some h
      refine s_iinc v2 hX dX10_goesInto_272 rfl (by rw [ev2]; rfl) (by decide) ?_
      refine s_goto (tgt := 194) hX dX10_goesInto_275 (by decide) ?_
      refine s_mask [true, true, true, true, true, false] ?_
      exact hrec _ _ h hk
    · replace h := (if_neg c16).symm.trans h
      refine s_aload_n hX dX10_goesInto_216 rfl ?_
      refine s_getR (r := 135) hX fo_RX10_61_9 SH_123 rfl dX10_goesInto_217 ?_
      refine s_iload_n hX dX10_goesInto_220 rfl ?_
      obtain ⟨c3, h⟩ := gd_some h
      refine s_iald hX SH_135 c3 dX10_goesInto_221 ?_
      refine s_iload hX dX10_goesInto_222 rfl ?_
      obtain ⟨r4, hc, h⟩ := bn_some h
      refine s_callSI _ hX (cX10_has_ok (sl X)  hc) ms_RX10_255 (fun _ => rfl) (by decide) (Nat.le_of_ble_eq_true rfl) hcs dX10_goesInto_224 rfl ?_
      refine s_if_ne (tgt := 233) hX dX10_goesInto_227 (by decide) (fun c15 => ?_) (fun c15 => ?_)
      · replace h := (if_neg c15).symm.trans h
        refine s_aload_n hX dX10_goesInto_233 rfl ?_
        refine s_getR (r := 147) hX fo_RX10_109_9 SH_123 rfl dX10_goesInto_234 ?_
        refine s_aload_n hX dX10_goesInto_237 rfl ?_
        refine s_getR (r := 142) hX fo_RX10_94_9 SH_123 rfl dX10_goesInto_238 ?_
        refine s_bipush 8 hX dX10_goesInto_241 (by decide) ?_
        refine s_iload hX dX10_goesInto_243 rfl ?_
        refine s_imul hX dX10_goesInto_245 ?_
        refine s_iload_n hX dX10_goesInto_246 rfl ?_
        refine s_iadd hX dX10_goesInto_247 ?_
        obtain ⟨c5, h⟩ := gd_some h
        refine s_iald hX SH_142 c5 dX10_goesInto_248 ?_
        refine s_aload_n hX dX10_goesInto_249 rfl ?_
        refine s_getR (r := 148) hX fo_RX10_112_9 SH_123 rfl dX10_goesInto_250 ?_
        refine s_aload_n hX dX10_goesInto_253 rfl ?_
        refine s_getR (r := 141) hX fo_RX10_91_9 SH_123 rfl dX10_goesInto_254 ?_
        refine s_iload hX dX10_goesInto_257 rfl ?_
        obtain ⟨c6, h⟩ := gd_some h
        refine s_iald hX SH_141 c6 dX10_goesInto_259 ?_
        obtain ⟨c7, h⟩ := gd_some h
        refine s_iald hX SH_148 c7 dX10_goesInto_260 ?_
        obtain ⟨c8, h⟩ := gd_some h
        obtain ⟨σ9, eσ9, h⟩ := bd_some h
        refine s_iast hX SH_147 c8 dX10_goesInto_261 ?_
        refine s_mem σ9 eσ9 ?_
        refine s_aload_n hX dX10_goesInto_262 rfl ?_
        refine s_getR (r := 150) hX fo_RX10_118_9 SH_123 rfl dX10_goesInto_263 ?_
        refine s_iconst 1 hX dX10_goesInto_266 (by decide) ?_
        refine s_dup2 hX dX10_goesInto_267 rfl rfl ?_
        obtain ⟨c10, h⟩ := gd_some h
        refine s_iald hX SH_150 c10 dX10_goesInto_268 ?_
        refine s_iconst 1 hX dX10_goesInto_269 (by decide) ?_
        refine s_iadd hX dX10_goesInto_270 ?_
        obtain ⟨c11, h⟩ := gd_some h
        obtain ⟨σ12, eσ12, h⟩ := bd_some h
        refine s_iast hX SH_150 c11 dX10_goesInto_271 ?_
        refine s_mem σ12 eσ12 ?_
        obtain ⟨v13, ev13, h⟩ := bd_some h
        refine s_iinc v13 hX dX10_goesInto_272 rfl (by rw [ev13]; rfl) (by decide) ?_
        refine s_goto (tgt := 194) hX dX10_goesInto_275 (by decide) ?_
        refine s_mask [true, true, true, true, true, false] ?_
        exact hrec _ _ h hk
      · replace h := (if_pos c15).symm.trans h
        refine s_goto (tgt := 272) hX dX10_goesInto_230 (by decide) ?_
        obtain ⟨v14, ev14, h⟩ := bd_some h
        refine s_iinc v14 hX dX10_goesInto_272 rfl (by rw [ev14]; rfl) (by decide) ?_
        refine s_goto (tgt := 194) hX dX10_goesInto_275 (by decide) ?_
        refine s_mask [true, true, true, true, true, false] ?_
        exact hrec _ _ h hk
set_option maxHeartbeats 4000000 in
theorem pX10_goesInto_153 {X : sT} {cs : Nat × Nat} (hX : sX X cX10_goesInto RX10 6 2 45) (hcs : cs.1 ≤ (sR X).cells ∧ cs.2 ≤ (sR X).slots) (l1 : Int32) (l2 : Int32)  : ∀ (n : Nat) (s : Mm × Int32) (r : Mm), qX10_goesInto_153 l1 l2 n s = some r → sW X 6 cs r 284 [none, none, none, none, none, none] [] → sW X 6 cs s.1 153 [some (.ref (sad X 123)), some (.int l1), some (.int l2), some (.int s.2), none, none] [] := by
  refine lp_ind (P := fun (s : Mm × Int32) (r : Mm) => sW X 6 cs r 284 [none, none, none, none, none, none] [] → sW X 6 cs s.1 153 [some (.ref (sad X 123)), some (.int l1), some (.int l2), some (.int s.2), none, none] []) ?_
  intro rec hrec s r h0 hk
  obtain ⟨σ, x3⟩ := s
  have h : gX10_goesInto_153 l1 l2 rec σ x3 = some r := h0
  unfold gX10_goesInto_153 at h
  show sW X 6 cs σ 153 [some (.ref (sad X 123)), some (.int l1), some (.int l2), some (.int x3), none, none] []
  refine s_iload_n hX dX10_goesInto_153 rfl ?_
  refine s_aload_n hX dX10_goesInto_154 rfl ?_
  refine s_getI hX fo_RX10_67_9 SH_123 rfl dX10_goesInto_155 ?_
  refine s_ic_ge (tgt := 284) hX dX10_goesInto_158 (by decide) (fun c12 => ?_) (fun c12 => ?_)
  · replace h := (if_pos c12).symm.trans h
    obtain rfl := rt1 h
    refine s_mask [false, false, false, false, false, false] ?_
    exact hk
  · replace h := (if_neg c12).symm.trans h
    refine s_aload_n hX dX10_goesInto_161 rfl ?_
    refine s_getR (r := 137) hX fo_RX10_70_9 SH_123 rfl dX10_goesInto_162 ?_
    refine s_iload_n hX dX10_goesInto_165 rfl ?_
    obtain ⟨c1, h⟩ := gd_some h
    refine s_iald hX SH_137 c1 dX10_goesInto_166 ?_
    refine s_iload_n hX dX10_goesInto_167 rfl ?_
    refine s_ic_ne (tgt := 278) hX dX10_goesInto_168 (by decide) (fun c11 => ?_) (fun c11 => ?_)
    · replace h := (if_neg c11).symm.trans h
      obtain ⟨v2, ev2, h⟩ := bd_some h
      refine s_iinc v2 hX dX10_goesInto_278 rfl (by rw [ev2]; rfl) (by decide) ?_
      refine s_goto (tgt := 153) hX dX10_goesInto_281 (by decide) ?_
      refine s_mask [true, true, true, true, false, false] ?_
      exact hrec _ _ h hk
    · replace h := (if_pos c11).symm.trans h
      refine s_iload_n hX dX10_goesInto_171 rfl ?_
      refine jn_use (fun j => ∀ (_u : Unit), j _u = some r → sW X 6 cs σ 191 [some (.ref (sad X 123)), some (.int l1), some (.int l2), some (.int x3), none, none] []) h ?_ ?_
      · intro _u h
        refine s_iconst 0 hX dX10_goesInto_191 (by decide) ?_
        refine s_istore hX dX10_goesInto_192 (by decide) ?_
        obtain ⟨σ4, hc, h⟩ := bn_some h
        refine s_mask [true, true, true, true, true, false] ?_
        refine pX10_goesInto_194 hX hcs _ _ _ _ _ _ hc ?_
        obtain ⟨v5, ev5, h⟩ := bd_some h
        refine s_iinc v5 hX dX10_goesInto_278 rfl (by rw [ev5]; rfl) (by decide) ?_
        refine s_goto (tgt := 153) hX dX10_goesInto_281 (by decide) ?_
        refine s_mask [true, true, true, true, false, false] ?_
        exact hrec _ _ h hk
      · intro j3 hj3 h
        refine s_if_lt (tgt := 191) hX dX10_goesInto_172 (by decide) (fun c10 => ?_) (fun c10 => ?_)
        · replace h := (if_pos c10).symm.trans h
          refine s_mask [true, true, true, true, false, false] ?_
          exact hj3 _ h
        · replace h := (if_neg c10).symm.trans h
          refine s_aload_n hX dX10_goesInto_175 rfl ?_
          refine s_getR (r := 138) hX fo_RX10_73_9 SH_123 rfl dX10_goesInto_176 ?_
          refine s_iload_n hX dX10_goesInto_179 rfl ?_
          obtain ⟨c6, h⟩ := gd_some h
          refine s_iald hX SH_138 c6 dX10_goesInto_180 ?_
          refine s_iload_n hX dX10_goesInto_181 rfl ?_
          obtain ⟨r7, hc, h⟩ := bn_some h
          refine s_callSI _ hX (cX10_has_ok (sl X)  hc) ms_RX10_255 (fun _ => rfl) (by decide) (Nat.le_of_ble_eq_true rfl) hcs dX10_goesInto_182 rfl ?_
          refine s_if_eq (tgt := 191) hX dX10_goesInto_185 (by decide) (fun c9 => ?_) (fun c9 => ?_)
          · replace h := (if_pos c9).symm.trans h
            refine s_mask [true, true, true, true, false, false] ?_
            exact hj3 _ h
          · replace h := (if_neg c9).symm.trans h
            refine s_goto (tgt := 278) hX dX10_goesInto_188 (by decide) ?_
            obtain ⟨v8, ev8, h⟩ := bd_some h
            refine s_iinc v8 hX dX10_goesInto_278 rfl (by rw [ev8]; rfl) (by decide) ?_
            refine s_goto (tgt := 153) hX dX10_goesInto_281 (by decide) ?_
            refine s_mask [true, true, true, true, false, false] ?_
            exact hrec _ _ h hk
set_option maxHeartbeats 4000000 in
theorem cX10_goesInto_ok (l : Launch) {σ : Mm} {l1 : Int32} {l2 : Int32} {σ' : Mm}  (h : fX10_goesInto σ l1 l2 = some σ') : cV l yX10_goesInto cX10_goesInto 6 2 45 (fun ad => [.ref (ad 123), .int l1, .int l2]) σ σ' := by
  refine c_enterV (fun ad => [some (.ref (ad 123)), some (.int l1), some (.int l2), none, none, none]) (by decide) (fun ad => ⟨by simp [Value.category], Nat.le_of_ble_eq_true rfl⟩) (fun ad => ⟨3, rfl⟩) ?_
  intro X _ hX hret
  have hcs : ((0 : Nat), (0 : Nat)).1 ≤ (sR X).cells ∧ ((0 : Nat), (0 : Nat)).2 ≤ (sR X).slots := ⟨Nat.zero_le _, Nat.zero_le _⟩
  generalize hcs0 : ((0 : Nat), (0 : Nat)) = cs at hcs hret ⊢
  unfold fX10_goesInto at h
  show sW X 6 cs σ 0 [some (.ref (sad X 123)), some (.int l1), some (.int l2), none, none, none] []
  refine s_iconst 0 hX dX10_goesInto_0 (by decide) ?_
  refine s_istore_n hX dX10_goesInto_1 (by decide) ?_
  obtain ⟨σ1, hc, h⟩ := bn_some h
  refine s_mask [true, true, true, true, false, false] ?_
  refine pX10_goesInto_2 hX hcs _ _ _ _ _ hc ?_
  refine s_iconst 0 hX dX10_goesInto_151 (by decide) ?_
  refine s_istore_n hX dX10_goesInto_152 (by decide) ?_
  obtain ⟨σ2, hc, h⟩ := bn_some h
  refine s_mask [true, true, true, true, false, false] ?_
  refine pX10_goesInto_153 hX hcs _ _ _ _ _ hc ?_
  obtain rfl := rt1 h
  exact hret _ _ dX10_goesInto_284
