def fX3_moveTo_r (σ : Mm) (l1 : Int32) (l2 : Int32) : Option Mm :=
  (fX6_enter σ l1 l2).bind fun σ1 =>
  bd (upm σ1 107 (upd (σ1 107) 2 l2)) fun σ2 =>
  gd l2 8 <|
  gd l2 8 <|
  bd (upm σ2 108 (upd (σ2 108) l2.toNatClampNeg ((σ2 108 l2.toNatClampNeg) + 1))) fun σ5 =>
  some σ5
set_option maxHeartbeats 4000000 in
theorem cX3_moveTo_r_ok (l : Launch) {σ : Mm} {l1 : Int32} {l2 : Int32} {σ' : Mm}  (h : fX3_moveTo_r σ l1 l2 = some σ') : cV l yX3_moveTo cX3_moveTo 3 3 69 (fun ad => [.ref (ad 107), .int l1, .int l2]) σ σ' := by
  refine c_enterV (fun ad => [some (.ref (ad 107)), some (.int l1), some (.int l2)]) (by decide) (fun ad => ⟨by simp [Value.category], Nat.le_of_ble_eq_true rfl⟩) (fun ad => ⟨0, rfl⟩) ?_
  intro X _ hX hret
  have hcs : ((0 : Nat), (0 : Nat)).1 ≤ (sR X).cells ∧ ((0 : Nat), (0 : Nat)).2 ≤ (sR X).slots := ⟨Nat.zero_le _, Nat.zero_le _⟩
  generalize hcs0 : ((0 : Nat), (0 : Nat)) = cs at hcs hret ⊢
  unfold fX3_moveTo_r at h
  show sW X 3 cs σ 0 [some (.ref (sad X 107)), some (.int l1), some (.int l2)] []
  refine s_aload_n hX dX3_moveTo_0 rfl ?_
  refine s_iload_n hX dX3_moveTo_1 rfl ?_
  refine s_iload_n hX dX3_moveTo_2 rfl ?_
  obtain ⟨σ1, hc, h⟩ := bn_some h
  refine s_callVV _ hX (cX6_enter_ok (sl X)  hc) SH_107 mv_RX3_89_5 (fun _ => rfl) (by decide) (Nat.le_of_ble_eq_true rfl) hcs dX3_moveTo_3 rfl ?_
  refine s_aload_n hX dX3_moveTo_6 rfl ?_
  refine s_iload_n hX dX3_moveTo_7 rfl ?_
  obtain ⟨σ2, eσ2, h⟩ := bd_some h
  refine s_putI hX fo_RX3_39_5 SH_107 rfl dX3_moveTo_8 ?_
  refine s_mem σ2 eσ2 ?_
  refine s_aload_n hX dX3_moveTo_11 rfl ?_
  refine s_getR (r := 108) hX fo_RX3_9_5 SH_107 rfl dX3_moveTo_12 ?_
  refine s_iload_n hX dX3_moveTo_15 rfl ?_
  refine s_dup2 hX dX3_moveTo_16 rfl rfl ?_
  obtain ⟨c3, h⟩ := gd_some h
  refine s_iald hX SH_108 c3 dX3_moveTo_17 ?_
  refine s_iconst 1 hX dX3_moveTo_18 (by decide) ?_
  refine s_iadd hX dX3_moveTo_19 ?_
  obtain ⟨c4, h⟩ := gd_some h
  obtain ⟨σ5, eσ5, h⟩ := bd_some h
  refine s_iast hX SH_108 c4 dX3_moveTo_20 ?_
  refine s_mem σ5 eσ5 ?_
  obtain rfl := rt1 h
  exact hret _ _ dX3_moveTo_21
def gX5_registerIn_10 (σ : Mm) (l1 : Int32) (l2 : Int32) (rec : Int32 × Int32 → Option (Int32)) (x3 : Int32) (x4 : Int32) : Option (Int32) :=
  if (σ 94 3) ≤ x4 then
  some x3
else
  gd ((x4 * 12) + l2) 96 <|
  bd (σ 101 ((x4 * 12) + l2).toNatClampNeg) fun v2 =>
  if v2 = (-1) then
  bd (x4 + 1) fun v3 =>
  rec (x3, v3)
else
  gd x4 8 <|
  (fX9_has σ (σ 96 x4.toNatClampNeg) l1).bind fun r5 =>
  if r5 = 0 then
  bd (x4 + 1) fun v6 =>
  rec (x3, v6)
else
  bd (x4 + 1) fun v7 =>
  rec (v2, v7)
def qX5_registerIn_10 (σ : Mm) (l1 : Int32) (l2 : Int32) : Nat → Int32 × Int32 → Option (Int32) := lp (fun rec s => gX5_registerIn_10 σ l1 l2 rec s.1 s.2)
def fX5_registerIn (σ : Mm) (l1 : Int32) (l2 : Int32) : Option Int32 :=
  gd l2 12 <|
  bd (σ 99 l2.toNatClampNeg) fun v2 =>
  (qX5_registerIn_10 σ l1 l2 FU (v2, 0)).bind fun v3 =>
  some v3
set_option maxHeartbeats 4000000 in
theorem pX5_registerIn_10 {X : sT} {cs : Nat × Nat} (hX : sX X cX5_registerIn RX5 6 1 21) (hcs : cs.1 ≤ (sR X).cells ∧ cs.2 ≤ (sR X).slots) (σ : Mm) (l1 : Int32) (l2 : Int32)  : ∀ (n : Nat) (s : Int32 × Int32) (r : Int32), qX5_registerIn_10 σ l1 l2 n s = some r → sW X 6 cs σ 68 [none, none, none, some (.int r), none, none] [] → sW X 6 cs σ 10 [some (.ref (sad X 97)), some (.int l1), some (.int l2), some (.int s.1), some (.int s.2), none] [] := by
  refine lp_ind (P := fun (s : Int32 × Int32) (r : Int32) => sW X 6 cs σ 68 [none, none, none, some (.int r), none, none] [] → sW X 6 cs σ 10 [some (.ref (sad X 97)), some (.int l1), some (.int l2), some (.int s.1), some (.int s.2), none] []) ?_
  intro rec hrec s r h0 hk
  obtain ⟨x3, x4⟩ := s
  have h : gX5_registerIn_10 σ l1 l2 rec x3 x4 = some r := h0
  unfold gX5_registerIn_10 at h
  show sW X 6 cs σ 10 [some (.ref (sad X 97)), some (.int l1), some (.int l2), some (.int x3), some (.int x4), none] []
  refine s_iload hX dX5_registerIn_10 rfl ?_
  refine s_aload_n hX dX5_registerIn_12 rfl ?_
  refine s_getR (r := 94) hX fo_RX5_38_4 SH_97 rfl dX5_registerIn_13 ?_
  refine s_getI hX fo_RX5_114_2 SH_94 rfl dX5_registerIn_16 ?_
  refine s_ic_ge (tgt := 68) hX dX5_registerIn_19 (by decide) (fun c10 => ?_) (fun c10 => ?_)
  · replace h := (if_pos c10).symm.trans h
    obtain rfl := rt1 h
    refine s_mask [false, false, false, true, false, false] ?_
    exact hk
  · replace h := (if_neg c10).symm.trans h
    refine s_aload_n hX dX5_registerIn_22 rfl ?_
    refine s_getR (r := 101) hX fo_RX5_21_4 SH_97 rfl dX5_registerIn_23 ?_
    refine s_iload hX dX5_registerIn_26 rfl ?_
    refine s_bipush 12 hX dX5_registerIn_28 (by decide) ?_
    refine s_imul hX dX5_registerIn_30 ?_
    refine s_iload_n hX dX5_registerIn_31 rfl ?_
    refine s_iadd hX dX5_registerIn_32 ?_
    obtain ⟨c1, h⟩ := gd_some h
    refine s_iald hX SH_101 c1 dX5_registerIn_33 ?_
    obtain ⟨v2, ev2, h⟩ := bd_some h
    refine s_topi v2 ev2 ?_
    refine s_istore hX dX5_registerIn_34 (by decide) ?_
    refine s_iload hX dX5_registerIn_36 rfl ?_
    refine s_iconst (-1) hX dX5_registerIn_38 (by decide) ?_
    refine s_ic_eq (tgt := 62) hX dX5_registerIn_39 (by decide) (fun c9 => ?_) (fun c9 => ?_)
    · replace h := (if_pos c9).symm.trans h
      obtain ⟨v3, ev3, h⟩ := bd_some h
      refine s_iinc v3 hX dX5_registerIn_62 rfl (by rw [ev3]; rfl) (by decide) ?_
      refine s_goto (tgt := 10) hX dX5_registerIn_65 (by decide) ?_
      refine s_mask [true, true, true, true, true, false] ?_
      exact hrec _ _ h hk
    · replace h := (if_neg c9).symm.trans h
      refine s_aload_n hX dX5_registerIn_42 rfl ?_
      refine s_getR (r := 94) hX fo_RX5_38_4 SH_97 rfl dX5_registerIn_43 ?_
      refine s_getR (r := 96) hX fo_RX5_189_2 SH_94 rfl dX5_registerIn_46 ?_
      refine s_iload hX dX5_registerIn_49 rfl ?_
      obtain ⟨c4, h⟩ := gd_some h
      refine s_iald hX SH_96 c4 dX5_registerIn_51 ?_
      refine s_iload_n hX dX5_registerIn_52 rfl ?_
      obtain ⟨r5, hc, h⟩ := bn_some h
      refine s_callSI _ hX (cX9_has_ok (sl X)  hc) ms_RX5_83 (fun _ => rfl) (by decide) (Nat.le_of_ble_eq_true rfl) hcs dX5_registerIn_53 rfl ?_
      refine s_if_eq (tgt := 62) hX dX5_registerIn_56 (by decide) (fun c8 => ?_) (fun c8 => ?_)
      · replace h := (if_pos c8).symm.trans h
        obtain ⟨v6, ev6, h⟩ := bd_some h
        refine s_iinc v6 hX dX5_registerIn_62 rfl (by rw [ev6]; rfl) (by decide) ?_
        refine s_goto (tgt := 10) hX dX5_registerIn_65 (by decide) ?_
        refine s_mask [true, true, true, true, true, false] ?_
        exact hrec _ _ h hk
      · replace h := (if_neg c8).symm.trans h
        refine s_iload hX dX5_registerIn_59 rfl ?_
        refine s_istore_n hX dX5_registerIn_61 (by decide) ?_
        obtain ⟨v7, ev7, h⟩ := bd_some h
        refine s_iinc v7 hX dX5_registerIn_62 rfl (by rw [ev7]; rfl) (by decide) ?_
        refine s_goto (tgt := 10) hX dX5_registerIn_65 (by decide) ?_
        refine s_mask [true, true, true, true, true, false] ?_
        exact hrec _ _ h hk
set_option maxHeartbeats 4000000 in
theorem cX5_registerIn_ok (l : Launch) {σ : Mm} {l1 : Int32} {l2 : Int32} {r : Int32}  (h : fX5_registerIn σ l1 l2 = some r) : cI l yX5_registerIn cX5_registerIn 6 .int 1 21 (fun ad => [.ref (ad 97), .int l1, .int l2]) σ r σ := by
  refine c_enterI (fun ad => [some (.ref (ad 97)), some (.int l1), some (.int l2), none, none, none]) (by decide) (fun ad => ⟨by simp [Value.category], Nat.le_of_ble_eq_true rfl⟩) (fun ad => ⟨3, rfl⟩) ?_
  intro X _ hX hret
  have hcs : ((0 : Nat), (0 : Nat)).1 ≤ (sR X).cells ∧ ((0 : Nat), (0 : Nat)).2 ≤ (sR X).slots := ⟨Nat.zero_le _, Nat.zero_le _⟩
  generalize hcs0 : ((0 : Nat), (0 : Nat)) = cs at hcs hret ⊢
  unfold fX5_registerIn at h
  show sW X 6 cs σ 0 [some (.ref (sad X 97)), some (.int l1), some (.int l2), none, none, none] []
  refine s_aload_n hX dX5_registerIn_0 rfl ?_
  refine s_getR (r := 99) hX fo_RX5_15_4 SH_97 rfl dX5_registerIn_1 ?_
  refine s_iload_n hX dX5_registerIn_4 rfl ?_
  obtain ⟨c1, h⟩ := gd_some h
  refine s_iald hX SH_99 c1 dX5_registerIn_5 ?_
  obtain ⟨v2, ev2, h⟩ := bd_some h
  refine s_topi v2 ev2 ?_
  refine s_istore_n hX dX5_registerIn_6 (by decide) ?_
  refine s_iconst 0 hX dX5_registerIn_7 (by decide) ?_
  refine s_istore hX dX5_registerIn_8 (by decide) ?_
  obtain ⟨v3, hc, h⟩ := bn_some h
  refine s_mask [true, true, true, true, true, false] ?_
  refine pX5_registerIn_10 hX hcs _ _ _ _ _ _ hc ?_
  refine s_iload_n hX dX5_registerIn_68 rfl ?_
  obtain rfl := rt1 h
  exact hret _ _ (nzi _) dX5_registerIn_69
def fX6_scratchFor (σ : Mm) (l1 : Int32) : Option Int32 :=
  gd 0 2 <|
  if (σ 112 (Int32.toNatClampNeg 0)) = l1 then
  some 0
else
  gd 1 2 <|
  if (σ 112 (Int32.toNatClampNeg 1)) = l1 then
  some 1
else
  some (1 - (σ 107 13))
set_option maxHeartbeats 4000000 in
theorem cX6_scratchFor_ok (l : Launch) {σ : Mm} {l1 : Int32} {r : Int32}  (h : fX6_scratchFor σ l1 = some r) : cI l yX6_scratchFor cX6_scratchFor 2 .int 0 0 (fun ad => [.ref (ad 107), .int l1]) σ r σ := by
  refine c_enterI (fun ad => [some (.ref (ad 107)), some (.int l1)]) (by decide) (fun ad => ⟨by simp [Value.category], Nat.le_of_ble_eq_true rfl⟩) (fun ad => ⟨0, rfl⟩) ?_
  intro X _ hX hret
  have hcs : ((0 : Nat), (0 : Nat)).1 ≤ (sR X).cells ∧ ((0 : Nat), (0 : Nat)).2 ≤ (sR X).slots := ⟨Nat.zero_le _, Nat.zero_le _⟩
  generalize hcs0 : ((0 : Nat), (0 : Nat)) = cs at hcs hret ⊢
  unfold fX6_scratchFor at h
  show sW X 2 cs σ 0 [some (.ref (sad X 107)), some (.int l1)] []
  refine s_aload_n hX dX6_scratchFor_0 rfl ?_
  refine s_getR (r := 112) hX fo_RX6_21_5 SH_107 rfl dX6_scratchFor_1 ?_
  refine s_iconst 0 hX dX6_scratchFor_4 (by decide) ?_
  obtain ⟨c1, h⟩ := gd_some h
  refine s_iald hX SH_112 c1 dX6_scratchFor_5 ?_
  refine s_iload_n hX dX6_scratchFor_6 rfl ?_
  refine s_ic_ne (tgt := 12) hX dX6_scratchFor_7 (by decide) (fun c4 => ?_) (fun c4 => ?_)
  · replace h := (if_neg c4).symm.trans h
    refine s_aload_n hX dX6_scratchFor_12 rfl ?_
    refine s_getR (r := 112) hX fo_RX6_21_5 SH_107 rfl dX6_scratchFor_13 ?_
    refine s_iconst 1 hX dX6_scratchFor_16 (by decide) ?_
    obtain ⟨c2, h⟩ := gd_some h
    refine s_iald hX SH_112 c2 dX6_scratchFor_17 ?_
    refine s_iload_n hX dX6_scratchFor_18 rfl ?_
    refine s_ic_ne (tgt := 26) hX dX6_scratchFor_19 (by decide) (fun c3 => ?_) (fun c3 => ?_)
    · replace h := (if_neg c3).symm.trans h
      refine s_iconst 1 hX dX6_scratchFor_26 (by decide) ?_
      refine s_aload_n hX dX6_scratchFor_27 rfl ?_
      refine s_getI hX fo_RX6_95_5 SH_107 rfl dX6_scratchFor_28 ?_
      refine s_isub hX dX6_scratchFor_31 ?_
      obtain rfl := rt1 h
      exact hret _ _ (nzi _) dX6_scratchFor_32
    · replace h := (if_pos c3).symm.trans h
      refine s_iconst 1 hX dX6_scratchFor_22 (by decide) ?_
      refine s_goto (tgt := 32) hX dX6_scratchFor_23 (by decide) ?_
      obtain rfl := rt1 h
      exact hret _ _ (nzi _) dX6_scratchFor_32
  · replace h := (if_pos c4).symm.trans h
    refine s_iconst 0 hX dX6_scratchFor_10 (by decide) ?_
    obtain rfl := rt1 h
    exact hret _ _ (nzi _) dX6_scratchFor_11
def fX6_fetchFromMemory (σ : Mm) (l1 : Int32) : Option (Int32 × Mm) :=
  (fX6_scratchFor σ l1).bind fun r1 =>
  gd r1 2 <|
  jn (fun (σ3 : Mm) => bd (upm σ3 107 (upd (σ3 107) 13 r1)) fun σ5 =>
  gd r1 2 <|
  some (σ5 111 r1.toNatClampNeg, σ5)) fun j4 =>
  if (σ 112 r1.toNatClampNeg) = l1 then
  j4 σ
else
  gd r1 2 <|
  bd (upm σ 112 (upd (σ 112) r1.toNatClampNeg l1)) fun σ8 =>
  gd l1 12 <|
  gd (σ8 100 l1.toNatClampNeg) 12 <|
  gd r1 2 <|
  bd (upm σ8 111 (upd (σ8 111) r1.toNatClampNeg (σ8 110 (σ8 100 l1.toNatClampNeg).toNatClampNeg))) fun σ12 =>
  bd (upm σ12 107 (upd (σ12 107) 4 ((σ12 107 4) + 1))) fun σ13 =>
  j4 σ13
set_option maxHeartbeats 4000000 in
theorem cX6_fetchFromMemory_ok (l : Launch) {σ : Mm} {l1 : Int32} {r : Int32} {σ' : Mm}  (h : fX6_fetchFromMemory σ l1 = some (r, σ')) : cI l yX6_fetchFromMemory cX6_fetchFromMemory 3 .int 1 21 (fun ad => [.ref (ad 107), .int l1]) σ r σ' := by
  refine c_enterI (fun ad => [some (.ref (ad 107)), some (.int l1), none]) (by decide) (fun ad => ⟨by simp [Value.category], Nat.le_of_ble_eq_true rfl⟩) (fun ad => ⟨1, rfl⟩) ?_
  intro X _ hX hret
  have hcs : ((0 : Nat), (0 : Nat)).1 ≤ (sR X).cells ∧ ((0 : Nat), (0 : Nat)).2 ≤ (sR X).slots := ⟨Nat.zero_le _, Nat.zero_le _⟩
  generalize hcs0 : ((0 : Nat), (0 : Nat)) = cs at hcs hret ⊢
  unfold fX6_fetchFromMemory at h
  show sW X 3 cs σ 0 [some (.ref (sad X 107)), some (.int l1), none] []
  refine s_aload_n hX dX6_fetchFromMemory_0 rfl ?_
  refine s_iload_n hX dX6_fetchFromMemory_1 rfl ?_
  obtain ⟨r1, hc, h⟩ := bn_some h
  refine s_callVI _ hX (cX6_scratchFor_ok (sl X)  hc) SH_107 mv_RX6_126_5 (fun _ => rfl) (by decide) (Nat.le_of_ble_eq_true rfl) hcs dX6_fetchFromMemory_2 rfl ?_
  refine s_istore_n hX dX6_fetchFromMemory_5 (by decide) ?_
  refine s_aload_n hX dX6_fetchFromMemory_6 rfl ?_
  refine s_getR (r := 112) hX fo_RX6_21_5 SH_107 rfl dX6_fetchFromMemory_7 ?_
  refine s_iload_n hX dX6_fetchFromMemory_10 rfl ?_
  obtain ⟨c2, h⟩ := gd_some h
  refine s_iald hX SH_112 c2 dX6_fetchFromMemory_11 ?_
  refine s_iload_n hX dX6_fetchFromMemory_12 rfl ?_
  refine jn_use (fun j => ∀ (σ3 : Mm), j σ3 = some (r, σ') → sW X 3 cs σ3 53 [some (.ref (sad X 107)), none, some (.int r1)] []) h ?_ ?_
  · intro σ3 h
    refine s_aload_n hX dX6_fetchFromMemory_53 rfl ?_
    refine s_iload_n hX dX6_fetchFromMemory_54 rfl ?_
    obtain ⟨σ5, eσ5, h⟩ := bd_some h
    refine s_putI hX fo_RX6_95_5 SH_107 rfl dX6_fetchFromMemory_55 ?_
    refine s_mem σ5 eσ5 ?_
    refine s_aload_n hX dX6_fetchFromMemory_58 rfl ?_
    refine s_getR (r := 111) hX fo_RX6_18_5 SH_107 rfl dX6_fetchFromMemory_59 ?_
    refine s_iload_n hX dX6_fetchFromMemory_62 rfl ?_
    obtain ⟨c6, h⟩ := gd_some h
    refine s_iald hX SH_111 c6 dX6_fetchFromMemory_63 ?_
    obtain ⟨rfl, rfl⟩ := rt2 h
    exact hret _ _ (nzi _) dX6_fetchFromMemory_64
  · intro j4 hj4 h
    refine s_ic_eq (tgt := 53) hX dX6_fetchFromMemory_13 (by decide) (fun c14 => ?_) (fun c14 => ?_)
    · replace h := (if_pos c14).symm.trans h
      refine s_mask [true, false, true] ?_
      exact hj4 _ h
    · replace h := (if_neg c14).symm.trans h
      refine s_aload_n hX dX6_fetchFromMemory_16 rfl ?_
      refine s_getR (r := 112) hX fo_RX6_21_5 SH_107 rfl dX6_fetchFromMemory_17 ?_
      refine s_iload_n hX dX6_fetchFromMemory_20 rfl ?_
      refine s_iload_n hX dX6_fetchFromMemory_21 rfl ?_
      obtain ⟨c7, h⟩ := gd_some h
      obtain ⟨σ8, eσ8, h⟩ := bd_some h
      refine s_iast hX SH_112 c7 dX6_fetchFromMemory_22 ?_
      refine s_mem σ8 eσ8 ?_
      refine s_aload_n hX dX6_fetchFromMemory_23 rfl ?_
      refine s_getR (r := 111) hX fo_RX6_18_5 SH_107 rfl dX6_fetchFromMemory_24 ?_
      refine s_iload_n hX dX6_fetchFromMemory_27 rfl ?_
      refine s_aload_n hX dX6_fetchFromMemory_28 rfl ?_
      refine s_getR (r := 110) hX fo_RX6_15_5 SH_107 rfl dX6_fetchFromMemory_29 ?_
      refine s_aload_n hX dX6_fetchFromMemory_32 rfl ?_
      refine s_getR (r := 97) hX fo_RX6_24_5 SH_107 rfl dX6_fetchFromMemory_33 ?_
      refine s_getR (r := 100) hX fo_RX6_69_4 SH_97 rfl dX6_fetchFromMemory_36 ?_
      refine s_iload_n hX dX6_fetchFromMemory_39 rfl ?_
      obtain ⟨c9, h⟩ := gd_some h
      refine s_iald hX SH_100 c9 dX6_fetchFromMemory_40 ?_
      obtain ⟨c10, h⟩ := gd_some h
      refine s_iald hX SH_110 c10 dX6_fetchFromMemory_41 ?_
      obtain ⟨c11, h⟩ := gd_some h
      obtain ⟨σ12, eσ12, h⟩ := bd_some h
      refine s_iast hX SH_111 c11 dX6_fetchFromMemory_42 ?_
      refine s_mem σ12 eσ12 ?_
      refine s_aload_n hX dX6_fetchFromMemory_43 rfl ?_
      refine s_dup hX dX6_fetchFromMemory_44 rfl ?_
      refine s_getI hX fo_RX6_107_5 SH_107 rfl dX6_fetchFromMemory_45 ?_
      refine s_iconst 1 hX dX6_fetchFromMemory_48 (by decide) ?_
      refine s_iadd hX dX6_fetchFromMemory_49 ?_
      obtain ⟨σ13, eσ13, h⟩ := bd_some h
      refine s_putI hX fo_RX6_107_5 SH_107 rfl dX6_fetchFromMemory_50 ?_
      refine s_mem σ13 eσ13 ?_
      refine s_mask [true, false, true] ?_
      exact hj4 _ h
def fX6_fetch (σ : Mm) (l1 : Int32) : Option (Int32 × Mm) :=
  gd l1 12 <|
  if (σ 98 l1.toNatClampNeg) = 2 then
  bd (upm σ 107 (upd (σ 107) 6 ((σ 107 6) + 1))) fun σ7 =>
  gd l1 12 <|
  some (σ7 93 l1.toNatClampNeg, σ7)
else
  (fX5_registerIn σ (σ 107 2) l1).bind fun r2 =>
  if r2 = (-1) then
  bn2 (fX6_fetchFromMemory σ l1) fun r3 σ4 =>
  some (r3, σ4)
else
  gd r2 12 <|
  some (σ 109 r2.toNatClampNeg, σ)
set_option maxHeartbeats 4000000 in
theorem cX6_fetch_ok (l : Launch) {σ : Mm} {l1 : Int32} {r : Int32} {σ' : Mm}  (h : fX6_fetch σ l1 = some (r, σ')) : cI l yX6_fetch cX6_fetch 3 .int 2 46 (fun ad => [.ref (ad 107), .int l1]) σ r σ' := by
  refine c_enterI (fun ad => [some (.ref (ad 107)), some (.int l1), none]) (by decide) (fun ad => ⟨by simp [Value.category], Nat.le_of_ble_eq_true rfl⟩) (fun ad => ⟨1, rfl⟩) ?_
  intro X _ hX hret
  have hcs : ((0 : Nat), (0 : Nat)).1 ≤ (sR X).cells ∧ ((0 : Nat), (0 : Nat)).2 ≤ (sR X).slots := ⟨Nat.zero_le _, Nat.zero_le _⟩
  generalize hcs0 : ((0 : Nat), (0 : Nat)) = cs at hcs hret ⊢
  unfold fX6_fetch at h
  show sW X 3 cs σ 0 [some (.ref (sad X 107)), some (.int l1), none] []
  refine s_aload_n hX dX6_fetch_0 rfl ?_
  refine s_getR (r := 97) hX fo_RX6_24_5 SH_107 rfl dX6_fetch_1 ?_
  refine s_getR (r := 98) hX fo_RX6_54_4 SH_97 rfl dX6_fetch_4 ?_
  refine s_iload_n hX dX6_fetch_7 rfl ?_
  obtain ⟨c1, h⟩ := gd_some h
  refine s_iald hX SH_98 c1 dX6_fetch_8 ?_
  refine s_iconst 2 hX dX6_fetch_9 (by decide) ?_
  refine s_ic_ne (tgt := 36) hX dX6_fetch_10 (by decide) (fun c9 => ?_) (fun c9 => ?_)
  · replace h := (if_neg c9).symm.trans h
    refine s_aload_n hX dX6_fetch_36 rfl ?_
    refine s_getR (r := 97) hX fo_RX6_24_5 SH_107 rfl dX6_fetch_37 ?_
    refine s_aload_n hX dX6_fetch_40 rfl ?_
    refine s_getI hX fo_RX6_116_5 SH_107 rfl dX6_fetch_41 ?_
    refine s_iload_n hX dX6_fetch_44 rfl ?_
    obtain ⟨r2, hc, h⟩ := bn_some h
    refine s_callVI _ hX (cX5_registerIn_ok (sl X)  hc) SH_97 mv_RX6_119_4 (fun _ => rfl) (by decide) (Nat.le_of_ble_eq_true rfl) hcs dX6_fetch_45 rfl ?_
    refine s_istore_n hX dX6_fetch_48 (by decide) ?_
    refine s_iload_n hX dX6_fetch_49 rfl ?_
    refine s_iconst (-1) hX dX6_fetch_50 (by decide) ?_
    refine s_ic_eq (tgt := 63) hX dX6_fetch_51 (by decide) (fun c6 => ?_) (fun c6 => ?_)
    · replace h := (if_pos c6).symm.trans h
      refine s_aload_n hX dX6_fetch_63 rfl ?_
      refine s_iload_n hX dX6_fetch_64 rfl ?_
      obtain ⟨r3, σ4, hc, h⟩ := bn2_some h
      refine s_callVI _ hX (cX6_fetchFromMemory_ok (sl X)  hc) SH_107 mv_RX6_123_5 (fun _ => rfl) (by decide) (Nat.le_of_ble_eq_true rfl) hcs dX6_fetch_65 rfl ?_
      obtain ⟨rfl, rfl⟩ := rt2 h
      exact hret _ _ (nzi _) dX6_fetch_68
    · replace h := (if_neg c6).symm.trans h
      refine s_aload_n hX dX6_fetch_54 rfl ?_
      refine s_getR (r := 109) hX fo_RX6_9_5 SH_107 rfl dX6_fetch_55 ?_
      refine s_iload_n hX dX6_fetch_58 rfl ?_
      obtain ⟨c5, h⟩ := gd_some h
      refine s_iald hX SH_109 c5 dX6_fetch_59 ?_
      refine s_goto (tgt := 68) hX dX6_fetch_60 (by decide) ?_
      obtain ⟨rfl, rfl⟩ := rt2 h
      exact hret _ _ (nzi _) dX6_fetch_68
  · replace h := (if_pos c9).symm.trans h
    refine s_aload_n hX dX6_fetch_13 rfl ?_
    refine s_dup hX dX6_fetch_14 rfl ?_
    refine s_getI hX fo_RX6_110_5 SH_107 rfl dX6_fetch_15 ?_
    refine s_iconst 1 hX dX6_fetch_18 (by decide) ?_
    refine s_iadd hX dX6_fetch_19 ?_
    obtain ⟨σ7, eσ7, h⟩ := bd_some h
    refine s_putI hX fo_RX6_110_5 SH_107 rfl dX6_fetch_20 ?_
    refine s_mem σ7 eσ7 ?_
    refine s_aload_n hX dX6_fetch_23 rfl ?_
    refine s_getR (r := 97) hX fo_RX6_24_5 SH_107 rfl dX6_fetch_24 ?_
    refine s_getR (r := 87) hX fo_RX6_34_4 SH_97 rfl dX6_fetch_27 ?_
    refine s_getR (r := 93) hX fo_RX6_113_1 SH_87 rfl dX6_fetch_30 ?_
    refine s_iload_n hX dX6_fetch_33 rfl ?_
    obtain ⟨c8, h⟩ := gd_some h
    refine s_iald hX SH_93 c8 dX6_fetch_34 ?_
    obtain ⟨rfl, rfl⟩ := rt2 h
    exact hret _ _ (nzi _) dX6_fetch_35
def fX3_nextBlock_r (σ : Mm) (k1 : Nat) : Option (Int32 × Mm) :=
  if (σ k1 5) = 0 then
  some (σ k1 7, σ)
else
  bn2 (fX6_fetch σ (σ k1 6)) fun r1 σ2 =>
  if r1 = 0 then
  some (σ2 k1 8, σ2)
else
  some (σ2 k1 7, σ2)
set_option maxHeartbeats 4000000 in
theorem cX3_nextBlock_r_ok (l : Launch) {σ : Mm} {k1 : Nat} {r : Int32} {σ' : Mm} (hB1 : isB k1) (h : fX3_nextBlock_r σ k1 = some (r, σ')) : cI l yX3_nextBlock cX3_nextBlock 2 .int 3 68 (fun ad => [.ref (ad 107), .ref (ad k1)]) σ r σ' := by
  refine c_enterI (fun ad => [some (.ref (ad 107)), some (.ref (ad k1))]) (by decide) (fun ad => ⟨by simp [Value.category], Nat.le_of_ble_eq_true rfl⟩) (fun ad => ⟨0, rfl⟩) ?_
  intro X _ hX hret
  have hcs : ((0 : Nat), (0 : Nat)).1 ≤ (sR X).cells ∧ ((0 : Nat), (0 : Nat)).2 ≤ (sR X).slots := ⟨Nat.zero_le _, Nat.zero_le _⟩
  generalize hcs0 : ((0 : Nat), (0 : Nat)) = cs at hcs hret ⊢
  unfold fX3_nextBlock_r at h
  show sW X 2 cs σ 0 [some (.ref (sad X 107)), some (.ref (sad X k1))] []
  refine s_aload_n hX dX3_nextBlock_0 rfl ?_
  refine s_getI hX fo_RX3_57_0 (isB_0 hB1) rfl dX3_nextBlock_1 ?_
  refine s_if_ne (tgt := 12) hX dX3_nextBlock_4 (by decide) (fun c4 => ?_) (fun c4 => ?_)
  · replace h := (if_neg c4).symm.trans h
    refine s_aload_n hX dX3_nextBlock_12 rfl ?_
    refine s_aload_n hX dX3_nextBlock_13 rfl ?_
    refine s_getI hX fo_RX3_60_0 (isB_0 hB1) rfl dX3_nextBlock_14 ?_
    obtain ⟨r1, σ2, hc, h⟩ := bn2_some h
    refine s_callVI _ hX (cX6_fetch_ok (sl X)  hc) SH_107 mv_RX3_63_5 (fun _ => rfl) (by decide) (Nat.le_of_ble_eq_true rfl) hcs dX3_nextBlock_17 rfl ?_
    refine s_if_eq (tgt := 30) hX dX3_nextBlock_20 (by decide) (fun c3 => ?_) (fun c3 => ?_)
    · replace h := (if_pos c3).symm.trans h
      refine s_aload_n hX dX3_nextBlock_30 rfl ?_
      refine s_getI hX fo_RX3_95_0 (isB_0 hB1) rfl dX3_nextBlock_31 ?_
      obtain ⟨rfl, rfl⟩ := rt2 h
      exact hret _ _ (nzi _) dX3_nextBlock_34
    · replace h := (if_neg c3).symm.trans h
      refine s_aload_n hX dX3_nextBlock_23 rfl ?_
      refine s_getI hX fo_RX3_92_0 (isB_0 hB1) rfl dX3_nextBlock_24 ?_
      refine s_goto (tgt := 34) hX dX3_nextBlock_27 (by decide) ?_
      obtain ⟨rfl, rfl⟩ := rt2 h
      exact hret _ _ (nzi _) dX3_nextBlock_34
  · replace h := (if_pos c4).symm.trans h
    refine s_aload_n hX dX3_nextBlock_7 rfl ?_
    refine s_getI hX fo_RX3_92_0 (isB_0 hB1) rfl dX3_nextBlock_8 ?_
    obtain ⟨rfl, rfl⟩ := rt2 h
    exact hret _ _ (nzi _) dX3_nextBlock_11
def fX3_valueOf_r (σ : Mm) (k1 : Nat) (l2 : Int32) : Option (Int32 × Mm) :=
  gd l2 8 <|
  if (σ (k1 + 1) l2.toNatClampNeg) = 0 then
  gd l2 8 <|
  some (σ (k1 + 3) l2.toNatClampNeg, σ)
else
  gd l2 8 <|
  bn2 (fX6_fetch σ (σ (k1 + 3) l2.toNatClampNeg)) fun r3 σ4 =>
  gd l2 8 <|
  if (σ4 (k1 + 1) l2.toNatClampNeg) = 1 then
  some (r3, σ4)
else
  gd l2 8 <|
  gd l2 8 <|
  jn (fun (σ8 : Mm) (v9 : Int32) => gd l2 8 <|
  bd (σ8 (k1 + 1) l2.toNatClampNeg) fun v12 =>
  if v12 = 2 then
  some (r3 + v9, σ8)
else if v12 = 3 then
  some (r3 - v9, σ8)
else 
  some (r3 * v9, σ8)) fun j10 =>
  if (σ4 (k1 + 4) l2.toNatClampNeg) = (σ4 (k1 + 3) l2.toNatClampNeg) then
  j10 σ4 r3
else
  gd l2 8 <|
  bn2 (fX6_fetch σ4 (σ4 (k1 + 4) l2.toNatClampNeg)) fun r16 σ17 =>
  j10 σ17 r16
set_option maxHeartbeats 4000000 in
theorem cX3_valueOf_r_ok (l : Launch) {σ : Mm} {k1 : Nat} {l2 : Int32} {r : Int32} {σ' : Mm} (hB1 : isB k1) (h : fX3_valueOf_r σ k1 l2 = some (r, σ')) : cI l yX3_valueOf cX3_valueOf 5 .int 3 68 (fun ad => [.ref (ad 107), .ref (ad k1), .int l2]) σ r σ' := by
  refine c_enterI (fun ad => [some (.ref (ad 107)), some (.ref (ad k1)), some (.int l2), none, none]) (by decide) (fun ad => ⟨by simp [Value.category], Nat.le_of_ble_eq_true rfl⟩) (fun ad => ⟨2, rfl⟩) ?_
  intro X _ hX hret
  have hcs : ((0 : Nat), (0 : Nat)).1 ≤ (sR X).cells ∧ ((0 : Nat), (0 : Nat)).2 ≤ (sR X).slots := ⟨Nat.zero_le _, Nat.zero_le _⟩
  generalize hcs0 : ((0 : Nat), (0 : Nat)) = cs at hcs hret ⊢
  unfold fX3_valueOf_r at h
  show sW X 5 cs σ 0 [some (.ref (sad X 107)), some (.ref (sad X k1)), some (.int l2), none, none] []
  refine s_aload_n hX dX3_valueOf_0 rfl ?_
  refine s_getR (r := k1 + 1) hX fo_RX3_98_0 (isB_0 hB1) rfl dX3_valueOf_1 ?_
  refine s_iload_n hX dX3_valueOf_4 rfl ?_
  obtain ⟨c1, h⟩ := gd_some h
  refine s_iald hX (isB_r hB1).1 c1 dX3_valueOf_5 ?_
  refine s_if_ne (tgt := 16) hX dX3_valueOf_6 (by decide) (fun c21 => ?_) (fun c21 => ?_)
  · replace h := (if_neg c21).symm.trans h
    refine s_aload_n hX dX3_valueOf_16 rfl ?_
    refine s_aload_n hX dX3_valueOf_17 rfl ?_
    refine s_getR (r := k1 + 3) hX fo_RX3_101_0 (isB_0 hB1) rfl dX3_valueOf_18 ?_
    refine s_iload_n hX dX3_valueOf_21 rfl ?_
    obtain ⟨c2, h⟩ := gd_some h
    refine s_iald hX (isB_r hB1).2.2.1 c2 dX3_valueOf_22 ?_
    obtain ⟨r3, σ4, hc, h⟩ := bn2_some h
    refine s_callVI _ hX (cX6_fetch_ok (sl X)  hc) SH_107 mv_RX3_63_5 (fun _ => rfl) (by decide) (Nat.le_of_ble_eq_true rfl) hcs dX3_valueOf_23 rfl ?_
    refine s_istore_n hX dX3_valueOf_26 (by decide) ?_
    refine s_aload_n hX dX3_valueOf_27 rfl ?_
    refine s_getR (r := k1 + 1) hX fo_RX3_98_0 (isB_0 hB1) rfl dX3_valueOf_28 ?_
    refine s_iload_n hX dX3_valueOf_31 rfl ?_
    obtain ⟨c5, h⟩ := gd_some h
    refine s_iald hX (isB_r hB1).1 c5 dX3_valueOf_32 ?_
    refine s_iconst 1 hX dX3_valueOf_33 (by decide) ?_
    refine s_ic_ne (tgt := 39) hX dX3_valueOf_34 (by decide) (fun c19 => ?_) (fun c19 => ?_)
    · replace h := (if_neg c19).symm.trans h
      refine s_aload_n hX dX3_valueOf_39 rfl ?_
      refine s_getR (r := k1 + 4) hX fo_RX3_104_0 (isB_0 hB1) rfl dX3_valueOf_40 ?_
      refine s_iload_n hX dX3_valueOf_43 rfl ?_
      obtain ⟨c6, h⟩ := gd_some h
      refine s_iald hX (isB_r hB1).2.2.2 c6 dX3_valueOf_44 ?_
      refine s_aload_n hX dX3_valueOf_45 rfl ?_
      refine s_getR (r := k1 + 3) hX fo_RX3_101_0 (isB_0 hB1) rfl dX3_valueOf_46 ?_
      refine s_iload_n hX dX3_valueOf_49 rfl ?_
      obtain ⟨c7, h⟩ := gd_some h
      refine s_iald hX (isB_r hB1).2.2.1 c7 dX3_valueOf_50 ?_
      refine jn_use (fun j => ∀ (σ8 : Mm) (v9 : Int32), j σ8 v9 = some (r, σ') → sW X 5 cs σ8 68 [none, some (.ref (sad X k1)), some (.int l2), some (.int r3), none] [.int v9]) h ?_ ?_
      · intro σ8 v9 h
        refine s_istore hX dX3_valueOf_68 (by decide) ?_
        refine s_aload_n hX dX3_valueOf_70 rfl ?_
        refine s_getR (r := k1 + 1) hX fo_RX3_98_0 (isB_0 hB1) rfl dX3_valueOf_71 ?_
        refine s_iload_n hX dX3_valueOf_74 rfl ?_
        obtain ⟨c11, h⟩ := gd_some h
        refine s_iald hX (isB_r hB1).1 c11 dX3_valueOf_75 ?_
        obtain ⟨v12, ev12, h⟩ := bd_some h
        refine s_topi v12 ev12 ?_
        by_cases c13 : v12 = 2
        · replace h := (if_pos c13).symm.trans h
          refine s_lsw (tgt := 104) (off := 28) hX dX3_valueOf_76 rfl (by rw [c13]; first | done | rfl) (by decide) ?_
          refine s_iload_n hX dX3_valueOf_104 rfl ?_
          refine s_iload hX dX3_valueOf_105 rfl ?_
          refine s_iadd hX dX3_valueOf_107 ?_
          obtain ⟨rfl, rfl⟩ := rt2 h
          exact hret _ _ (nzi _) dX3_valueOf_108
        · replace h := (if_neg c13).symm.trans h
          by_cases c14 : v12 = 3
          · replace h := (if_pos c14).symm.trans h
            refine s_lsw (tgt := 109) (off := 33) hX dX3_valueOf_76 rfl (by rw [c14]; first | done | rfl) (by decide) ?_
            refine s_iload_n hX dX3_valueOf_109 rfl ?_
            refine s_iload hX dX3_valueOf_110 rfl ?_
            refine s_isub hX dX3_valueOf_112 ?_
            obtain ⟨rfl, rfl⟩ := rt2 h
            exact hret _ _ (nzi _) dX3_valueOf_113
          · replace h := (if_neg c14).symm.trans h
            refine s_lsw (tgt := 114) (off := 38) hX dX3_valueOf_76 rfl ((lv_osw c13 rfl).trans ((lv_osw c14 rfl).trans rfl)) (by decide) ?_
            refine s_iload_n hX dX3_valueOf_114 rfl ?_
            refine s_iload hX dX3_valueOf_115 rfl ?_
            refine s_imul hX dX3_valueOf_117 ?_
            obtain ⟨rfl, rfl⟩ := rt2 h
            exact hret _ _ (nzi _) dX3_valueOf_118
      · intro j10 hj10 h
        refine s_ic_ne (tgt := 58) hX dX3_valueOf_51 (by decide) (fun c18 => ?_) (fun c18 => ?_)
        · replace h := (if_neg c18).symm.trans h
          refine s_aload_n hX dX3_valueOf_58 rfl ?_
          refine s_aload_n hX dX3_valueOf_59 rfl ?_
          refine s_getR (r := k1 + 4) hX fo_RX3_104_0 (isB_0 hB1) rfl dX3_valueOf_60 ?_
          refine s_iload_n hX dX3_valueOf_63 rfl ?_
          obtain ⟨c15, h⟩ := gd_some h
          refine s_iald hX (isB_r hB1).2.2.2 c15 dX3_valueOf_64 ?_
          obtain ⟨r16, σ17, hc, h⟩ := bn2_some h
          refine s_callVI _ hX (cX6_fetch_ok (sl X)  hc) SH_107 mv_RX3_63_5 (fun _ => rfl) (by decide) (Nat.le_of_ble_eq_true rfl) hcs dX3_valueOf_65 rfl ?_
          refine s_mask [false, true, true, true, false] ?_
          exact hj10 _ _ h
        · replace h := (if_pos c18).symm.trans h
          refine s_iload_n hX dX3_valueOf_54 rfl ?_
          refine s_goto (tgt := 68) hX dX3_valueOf_55 (by decide) ?_
          refine s_mask [false, true, true, true, false] ?_
          exact hj10 _ _ h
    · replace h := (if_pos c19).symm.trans h
      refine s_iload_n hX dX3_valueOf_37 rfl ?_
      obtain ⟨rfl, rfl⟩ := rt2 h
      exact hret _ _ (nzi _) dX3_valueOf_38
  · replace h := (if_pos c21).symm.trans h
    refine s_aload_n hX dX3_valueOf_9 rfl ?_
    refine s_getR (r := k1 + 3) hX fo_RX3_101_0 (isB_0 hB1) rfl dX3_valueOf_10 ?_
    refine s_iload_n hX dX3_valueOf_13 rfl ?_
    obtain ⟨c20, h⟩ := gd_some h
    refine s_iald hX (isB_r hB1).2.2.1 c20 dX3_valueOf_14 ?_
    obtain ⟨rfl, rfl⟩ := rt2 h
    exact hret _ _ (nzi _) dX3_valueOf_15
def fX6_putInMemory (σ : Mm) (l1 : Int32) (l2 : Int32) : Option Mm :=
  (fX6_scratchFor σ l1).bind fun r1 =>
  gd r1 2 <|
  bd (upm σ 112 (upd (σ 112) r1.toNatClampNeg l1)) fun σ3 =>
  gd r1 2 <|
  bd (upm σ3 111 (upd (σ3 111) r1.toNatClampNeg l2)) fun σ5 =>
  bd (upm σ5 107 (upd (σ5 107) 13 r1)) fun σ6 =>
  gd l1 12 <|
  gd (σ6 100 l1.toNatClampNeg) 12 <|
  bd (upm σ6 110 (upd (σ6 110) (σ6 100 l1.toNatClampNeg).toNatClampNeg l2)) fun σ9 =>
  bd (upm σ9 107 (upd (σ9 107) 5 ((σ9 107 5) + 1))) fun σ10 =>
  some σ10
set_option maxHeartbeats 4000000 in
theorem cX6_putInMemory_ok (l : Launch) {σ : Mm} {l1 : Int32} {l2 : Int32} {σ' : Mm}  (h : fX6_putInMemory σ l1 l2 = some σ') : cV l yX6_putInMemory cX6_putInMemory 4 1 21 (fun ad => [.ref (ad 107), .int l1, .int l2]) σ σ' := by
  refine c_enterV (fun ad => [some (.ref (ad 107)), some (.int l1), some (.int l2), none]) (by decide) (fun ad => ⟨by simp [Value.category], Nat.le_of_ble_eq_true rfl⟩) (fun ad => ⟨1, rfl⟩) ?_
  intro X _ hX hret
  have hcs : ((0 : Nat), (0 : Nat)).1 ≤ (sR X).cells ∧ ((0 : Nat), (0 : Nat)).2 ≤ (sR X).slots := ⟨Nat.zero_le _, Nat.zero_le _⟩
  generalize hcs0 : ((0 : Nat), (0 : Nat)) = cs at hcs hret ⊢
  unfold fX6_putInMemory at h
  show sW X 4 cs σ 0 [some (.ref (sad X 107)), some (.int l1), some (.int l2), none] []
  refine s_aload_n hX dX6_putInMemory_0 rfl ?_
  refine s_iload_n hX dX6_putInMemory_1 rfl ?_
  obtain ⟨r1, hc, h⟩ := bn_some h
  refine s_callVI _ hX (cX6_scratchFor_ok (sl X)  hc) SH_107 mv_RX6_126_5 (fun _ => rfl) (by decide) (Nat.le_of_ble_eq_true rfl) hcs dX6_putInMemory_2 rfl ?_
  refine s_istore_n hX dX6_putInMemory_5 (by decide) ?_
  refine s_aload_n hX dX6_putInMemory_6 rfl ?_
  refine s_getR (r := 112) hX fo_RX6_21_5 SH_107 rfl dX6_putInMemory_7 ?_
  refine s_iload_n hX dX6_putInMemory_10 rfl ?_
  refine s_iload_n hX dX6_putInMemory_11 rfl ?_
  obtain ⟨c2, h⟩ := gd_some h
  obtain ⟨σ3, eσ3, h⟩ := bd_some h
  refine s_iast hX SH_112 c2 dX6_putInMemory_12 ?_
  refine s_mem σ3 eσ3 ?_
  refine s_aload_n hX dX6_putInMemory_13 rfl ?_
  refine s_getR (r := 111) hX fo_RX6_18_5 SH_107 rfl dX6_putInMemory_14 ?_
  refine s_iload_n hX dX6_putInMemory_17 rfl ?_
  refine s_iload_n hX dX6_putInMemory_18 rfl ?_
  obtain ⟨c4, h⟩ := gd_some h
  obtain ⟨σ5, eσ5, h⟩ := bd_some h
  refine s_iast hX SH_111 c4 dX6_putInMemory_19 ?_
  refine s_mem σ5 eσ5 ?_
  refine s_aload_n hX dX6_putInMemory_20 rfl ?_
  refine s_iload_n hX dX6_putInMemory_21 rfl ?_
  obtain ⟨σ6, eσ6, h⟩ := bd_some h
  refine s_putI hX fo_RX6_95_5 SH_107 rfl dX6_putInMemory_22 ?_
  refine s_mem σ6 eσ6 ?_
  refine s_aload_n hX dX6_putInMemory_25 rfl ?_
  refine s_getR (r := 110) hX fo_RX6_15_5 SH_107 rfl dX6_putInMemory_26 ?_
  refine s_aload_n hX dX6_putInMemory_29 rfl ?_
  refine s_getR (r := 97) hX fo_RX6_24_5 SH_107 rfl dX6_putInMemory_30 ?_
  refine s_getR (r := 100) hX fo_RX6_69_4 SH_97 rfl dX6_putInMemory_33 ?_
  refine s_iload_n hX dX6_putInMemory_36 rfl ?_
  obtain ⟨c7, h⟩ := gd_some h
  refine s_iald hX SH_100 c7 dX6_putInMemory_37 ?_
  refine s_iload_n hX dX6_putInMemory_38 rfl ?_
  obtain ⟨c8, h⟩ := gd_some h
  obtain ⟨σ9, eσ9, h⟩ := bd_some h
  refine s_iast hX SH_110 c8 dX6_putInMemory_39 ?_
  refine s_mem σ9 eσ9 ?_
  refine s_aload_n hX dX6_putInMemory_40 rfl ?_
  refine s_dup hX dX6_putInMemory_41 rfl ?_
  refine s_getI hX fo_RX6_104_5 SH_107 rfl dX6_putInMemory_42 ?_
  refine s_iconst 1 hX dX6_putInMemory_45 (by decide) ?_
  refine s_iadd hX dX6_putInMemory_46 ?_
  obtain ⟨σ10, eσ10, h⟩ := bd_some h
  refine s_putI hX fo_RX6_104_5 SH_107 rfl dX6_putInMemory_47 ?_
  refine s_mem σ10 eσ10 ?_
  obtain rfl := rt1 h
  exact hret _ _ dX6_putInMemory_50
def fX6_put (σ : Mm) (l1 : Int32) (l2 : Int32) : Option Mm :=
  gd l1 12 <|
  if (σ 98 l1.toNatClampNeg) = 2 then
  some σ
else
  (fX5_registerIn σ (σ 107 2) l1).bind fun r2 =>
  if r2 = (-1) then
  (fX6_putInMemory σ l1 l2).bind fun σ3 =>
  some σ3
else
  gd r2 12 <|
  bd (upm σ 109 (upd (σ 109) r2.toNatClampNeg l2)) fun σ5 =>
  some σ5
set_option maxHeartbeats 4000000 in
theorem cX6_put_ok (l : Launch) {σ : Mm} {l1 : Int32} {l2 : Int32} {σ' : Mm}  (h : fX6_put σ l1 l2 = some σ') : cV l yX6_put cX6_put 4 2 46 (fun ad => [.ref (ad 107), .int l1, .int l2]) σ σ' := by
  refine c_enterV (fun ad => [some (.ref (ad 107)), some (.int l1), some (.int l2), none]) (by decide) (fun ad => ⟨by simp [Value.category], Nat.le_of_ble_eq_true rfl⟩) (fun ad => ⟨1, rfl⟩) ?_
  intro X _ hX hret
  have hcs : ((0 : Nat), (0 : Nat)).1 ≤ (sR X).cells ∧ ((0 : Nat), (0 : Nat)).2 ≤ (sR X).slots := ⟨Nat.zero_le _, Nat.zero_le _⟩
  generalize hcs0 : ((0 : Nat), (0 : Nat)) = cs at hcs hret ⊢
  unfold fX6_put at h
  show sW X 4 cs σ 0 [some (.ref (sad X 107)), some (.int l1), some (.int l2), none] []
  refine s_aload_n hX dX6_put_0 rfl ?_
  refine s_getR (r := 97) hX fo_RX6_24_5 SH_107 rfl dX6_put_1 ?_
  refine s_getR (r := 98) hX fo_RX6_54_4 SH_97 rfl dX6_put_4 ?_
  refine s_iload_n hX dX6_put_7 rfl ?_
  obtain ⟨c1, h⟩ := gd_some h
  refine s_iald hX SH_98 c1 dX6_put_8 ?_
  refine s_iconst 2 hX dX6_put_9 (by decide) ?_
  refine s_ic_ne (tgt := 14) hX dX6_put_10 (by decide) (fun c7 => ?_) (fun c7 => ?_)
  · replace h := (if_neg c7).symm.trans h
    refine s_aload_n hX dX6_put_14 rfl ?_
    refine s_getR (r := 97) hX fo_RX6_24_5 SH_107 rfl dX6_put_15 ?_
    refine s_aload_n hX dX6_put_18 rfl ?_
    refine s_getI hX fo_RX6_116_5 SH_107 rfl dX6_put_19 ?_
    refine s_iload_n hX dX6_put_22 rfl ?_
    obtain ⟨r2, hc, h⟩ := bn_some h
    refine s_callVI _ hX (cX5_registerIn_ok (sl X)  hc) SH_97 mv_RX6_119_4 (fun _ => rfl) (by decide) (Nat.le_of_ble_eq_true rfl) hcs dX6_put_23 rfl ?_
    refine s_istore_n hX dX6_put_26 (by decide) ?_
    refine s_iload_n hX dX6_put_27 rfl ?_
    refine s_iconst (-1) hX dX6_put_28 (by decide) ?_
    refine s_ic_eq (tgt := 42) hX dX6_put_29 (by decide) (fun c6 => ?_) (fun c6 => ?_)
    · replace h := (if_pos c6).symm.trans h
      refine s_aload_n hX dX6_put_42 rfl ?_
      refine s_iload_n hX dX6_put_43 rfl ?_
      refine s_iload_n hX dX6_put_44 rfl ?_
      obtain ⟨σ3, hc, h⟩ := bn_some h
      refine s_callVV _ hX (cX6_putInMemory_ok (sl X)  hc) SH_107 mv_RX6_129_5 (fun _ => rfl) (by decide) (Nat.le_of_ble_eq_true rfl) hcs dX6_put_45 rfl ?_
      obtain rfl := rt1 h
      exact hret _ _ dX6_put_48
    · replace h := (if_neg c6).symm.trans h
      refine s_aload_n hX dX6_put_32 rfl ?_
      refine s_getR (r := 109) hX fo_RX6_9_5 SH_107 rfl dX6_put_33 ?_
      refine s_iload_n hX dX6_put_36 rfl ?_
      refine s_iload_n hX dX6_put_37 rfl ?_
      obtain ⟨c4, h⟩ := gd_some h
      obtain ⟨σ5, eσ5, h⟩ := bd_some h
      refine s_iast hX SH_109 c4 dX6_put_38 ?_
      refine s_mem σ5 eσ5 ?_
      refine s_goto (tgt := 48) hX dX6_put_39 (by decide) ?_
      obtain rfl := rt1 h
      exact hret _ _ dX6_put_48
  · replace h := (if_pos c7).symm.trans h
    obtain rfl := rt1 h
    exact hret _ _ dX6_put_13
def gX3_execute_r_21 (l1 : Int32) (rec : Mm × Int32 → Option ((Int32 × Mm) ⊕ (Mm))) (σ : Mm) (x2 : Int32) : Option ((Int32 × Mm) ⊕ (Mm)) :=
  if l1 < (σ 107 3) then
  some (.inr σ)
else
  gd (σ 107 2) 8 <|
  bd (4 + 5 * (σ 107 2).toNatClampNeg) fun k2 =>
  if (σ k2 4) ≤ x2 then
  if (σ k2 5) = 2 then
  bn2 (fX6_fetch σ (σ k2 6)) fun r7 σ8 =>
  bd (upm σ8 107 (upd (σ8 107) 7 r7)) fun σ9 =>
  some (.inl (1, σ9))
else
  bn2 (fX3_nextBlock_r σ k2) fun r3 σ4 =>
  (fX3_moveTo_r σ4 (σ 107 2) r3).bind fun σ5 =>
  bd (upm σ5 107 (upd (σ5 107) 3 ((σ5 107 3) + 1))) fun σ6 =>
  rec (σ6, 0)
else
  gd x2 8 <|
  bn2 (fX3_valueOf_r σ k2 x2) fun r12 σ13 =>
  (fX6_put σ13 (σ (k2 + 2) x2.toNatClampNeg) r12).bind fun σ14 =>
  bd (x2 + 1) fun v15 =>
  bd (upm σ14 107 (upd (σ14 107) 3 ((σ14 107 3) + 1))) fun σ16 =>
  rec (σ16, v15)
def qX3_execute_r_21 (l1 : Int32) : Nat → Mm × Int32 → Option ((Int32 × Mm) ⊕ (Mm)) := lp (fun rec s => gX3_execute_r_21 l1 rec s.1 s.2)
def fX3_execute_r (σ : Mm) (l1 : Int32) : Option (Int32 × Mm) :=
  (fX3_reset_r σ).bind fun σ1 =>
  (fX6_prepare σ1).bind fun σ2 =>
  (fX3_moveTo_r σ2 (-1) 0).bind fun σ3 =>
  bd (upm σ3 107 (upd (σ3 107) 3 1)) fun σ4 =>
  bns (qX3_execute_r_21 l1 FU (σ4, 0)) (fun u => some u) (fun σ5 => some (0, σ5))
set_option maxHeartbeats 4000000 in
theorem pX3_execute_r_21 {X : sT} {cs : Nat × Nat} (hX : sX X cX3_execute RX3 4 4 92) (hcs : cs.1 ≤ (sR X).cells ∧ cs.2 ≤ (sR X).slots) (l1 : Int32)  : ∀ (n : Nat) (s : Mm × Int32) (r : (Int32 × Mm) ⊕ (Mm)), qX3_execute_r_21 l1 n s = some r → (∀ u, r = .inr u → sW X 4 cs u 122 [none, none, none, none] []) → (∀ u, r = .inl u → ∀ pc L, narrow .boolean (.int u.1) = .int u.1 → decode cX3_execute pc = .ok (.ireturn, 1) → sW X 4 cs u.2 pc L [.int u.1]) → sW X 4 cs s.1 21 [some (.ref (sad X 107)), some (.int l1), some (.int s.2), none] [] := by
  refine lp_ind (P := fun (s : Mm × Int32) (r : (Int32 × Mm) ⊕ (Mm)) => (∀ u, r = .inr u → sW X 4 cs u 122 [none, none, none, none] []) → (∀ u, r = .inl u → ∀ pc L, narrow .boolean (.int u.1) = .int u.1 → decode cX3_execute pc = .ok (.ireturn, 1) → sW X 4 cs u.2 pc L [.int u.1]) → sW X 4 cs s.1 21 [some (.ref (sad X 107)), some (.int l1), some (.int s.2), none] []) ?_
  intro rec hrec s r h0 hk hr
  obtain ⟨σ, x2⟩ := s
  have h : gX3_execute_r_21 l1 rec σ x2 = some r := h0
  unfold gX3_execute_r_21 at h
  show sW X 4 cs σ 21 [some (.ref (sad X 107)), some (.int l1), some (.int x2), none] []
  refine s_aload_n hX dX3_execute_21 rfl ?_
  refine s_getI hX fo_RX3_29_5 SH_107 rfl dX3_execute_22 ?_
  refine s_iload_n hX dX3_execute_25 rfl ?_
  refine s_ic_gt (tgt := 122) hX dX3_execute_26 (by decide) (fun c18 => ?_) (fun c18 => ?_)
  · replace h := (if_pos c18).symm.trans h
    obtain rfl := rt1 h
    refine s_mask [false, false, false, false] ?_
    exact hk _ rfl
  · replace h := (if_neg c18).symm.trans h
    refine s_aload_n hX dX3_execute_29 rfl ?_
    refine s_getR (r := 1) hX fo_RX3_15_5 SH_107 rfl dX3_execute_30 ?_
    refine s_getR (r := 2) hX fo_RX3_33_6 SH_1 rfl dX3_execute_33 ?_
    refine s_aload_n hX dX3_execute_36 rfl ?_
    refine s_getI hX fo_RX3_39_5 SH_107 rfl dX3_execute_37 ?_
    obtain ⟨c1, h⟩ := gd_some h
    obtain ⟨k2, ek2, h⟩ := bd_some h
    have Bk2 : isB k2 := Or.inl ⟨_, vp_lt c1, ek2⟩
    refine s_aaldP hX c1 dX3_execute_40 ?_
    refine s_topr k2 ek2 ?_
    refine s_astore_n hX dX3_execute_41 (by decide) ?_
    refine s_iload_n hX dX3_execute_42 rfl ?_
    refine s_aload_n hX dX3_execute_43 rfl ?_
    refine s_getI hX fo_RX3_42_0 (isB_0 Bk2) rfl dX3_execute_44 ?_
    refine s_ic_ge (tgt := 72) hX dX3_execute_47 (by decide) (fun c17 => ?_) (fun c17 => ?_)
    · replace h := (if_pos c17).symm.trans h
      refine s_aload_n hX dX3_execute_72 rfl ?_
      refine s_getI hX fo_RX3_57_0 (isB_0 Bk2) rfl dX3_execute_73 ?_
      refine s_iconst 2 hX dX3_execute_76 (by decide) ?_
      refine s_ic_ne (tgt := 94) hX dX3_execute_77 (by decide) (fun c10 => ?_) (fun c10 => ?_)
      · replace h := (if_neg c10).symm.trans h
        refine s_aload_n hX dX3_execute_94 rfl ?_
        refine s_aload_n hX dX3_execute_95 rfl ?_
        refine s_getI hX fo_RX3_39_5 SH_107 rfl dX3_execute_96 ?_
        refine s_aload_n hX dX3_execute_99 rfl ?_
        refine s_aload_n hX dX3_execute_100 rfl ?_
        obtain ⟨r3, σ4, hc, h⟩ := bn2_some h
        refine s_callVI _ hX (cX3_nextBlock_r_ok (sl X) Bk2 hc) SH_107 mv_RX3_70_5 (fun _ => rfl) (by decide) (Nat.le_of_ble_eq_true rfl) hcs dX3_execute_101 rfl ?_
        obtain ⟨σ5, hc, h⟩ := bn_some h
        refine s_callVV _ hX (cX3_moveTo_r_ok (sl X)  hc) SH_107 mv_RX3_25_5 (fun _ => rfl) (by decide) (Nat.le_of_ble_eq_true rfl) hcs dX3_execute_104 rfl ?_
        refine s_iconst 0 hX dX3_execute_107 (by decide) ?_
        refine s_istore_n hX dX3_execute_108 (by decide) ?_
        refine s_aload_n hX dX3_execute_109 rfl ?_
        refine s_dup hX dX3_execute_110 rfl ?_
        refine s_getI hX fo_RX3_29_5 SH_107 rfl dX3_execute_111 ?_
        refine s_iconst 1 hX dX3_execute_114 (by decide) ?_
        refine s_iadd hX dX3_execute_115 ?_
        obtain ⟨σ6, eσ6, h⟩ := bd_some h
        refine s_putI hX fo_RX3_29_5 SH_107 rfl dX3_execute_116 ?_
        refine s_mem σ6 eσ6 ?_
        refine s_goto (tgt := 21) hX dX3_execute_119 (by decide) ?_
        refine s_mask [true, true, true, false] ?_
        exact hrec _ _ h hk hr
      · replace h := (if_pos c10).symm.trans h
        refine s_aload_n hX dX3_execute_80 rfl ?_
        refine s_aload_n hX dX3_execute_81 rfl ?_
        refine s_aload_n hX dX3_execute_82 rfl ?_
        refine s_getI hX fo_RX3_60_0 (isB_0 Bk2) rfl dX3_execute_83 ?_
        obtain ⟨r7, σ8, hc, h⟩ := bn2_some h
        refine s_callVI _ hX (cX6_fetch_ok (sl X)  hc) SH_107 mv_RX3_63_5 (fun _ => rfl) (by decide) (Nat.le_of_ble_eq_true rfl) hcs dX3_execute_86 rfl ?_
        obtain ⟨σ9, eσ9, h⟩ := bd_some h
        refine s_putI hX fo_RX3_67_5 SH_107 rfl dX3_execute_89 ?_
        refine s_mem σ9 eσ9 ?_
        refine s_iconst 1 hX dX3_execute_92 (by decide) ?_
        obtain rfl := rt1 h
        exact hr _ rfl _ _ nz1 dX3_execute_93
    · replace h := (if_neg c17).symm.trans h
      refine s_aload_n hX dX3_execute_50 rfl ?_
      refine s_aload_n hX dX3_execute_51 rfl ?_
      refine s_getR (r := k2 + 2) hX fo_RX3_47_0 (isB_0 Bk2) rfl dX3_execute_52 ?_
      refine s_iload_n hX dX3_execute_55 rfl ?_
      obtain ⟨c11, h⟩ := gd_some h
      refine s_iald hX (isB_r Bk2).2.1 c11 dX3_execute_56 ?_
      refine s_aload_n hX dX3_execute_57 rfl ?_
      refine s_aload_n hX dX3_execute_58 rfl ?_
      refine s_iload_n hX dX3_execute_59 rfl ?_
      obtain ⟨r12, σ13, hc, h⟩ := bn2_some h
      refine s_callVI _ hX (cX3_valueOf_r_ok (sl X) Bk2 hc) SH_107 mv_RX3_50_5 (fun _ => rfl) (by decide) (Nat.le_of_ble_eq_true rfl) hcs dX3_execute_60 rfl ?_
      obtain ⟨σ14, hc, h⟩ := bn_some h
      refine s_callVV _ hX (cX6_put_ok (sl X)  hc) SH_107 mv_RX3_54_5 (fun _ => rfl) (by decide) (Nat.le_of_ble_eq_true rfl) hcs dX3_execute_63 rfl ?_
      obtain ⟨v15, ev15, h⟩ := bd_some h
      refine s_iinc v15 hX dX3_execute_66 rfl (by rw [ev15]; rfl) (by decide) ?_
      refine s_goto (tgt := 109) hX dX3_execute_69 (by decide) ?_
      refine s_aload_n hX dX3_execute_109 rfl ?_
      refine s_dup hX dX3_execute_110 rfl ?_
      refine s_getI hX fo_RX3_29_5 SH_107 rfl dX3_execute_111 ?_
      refine s_iconst 1 hX dX3_execute_114 (by decide) ?_
      refine s_iadd hX dX3_execute_115 ?_
      obtain ⟨σ16, eσ16, h⟩ := bd_some h
      refine s_putI hX fo_RX3_29_5 SH_107 rfl dX3_execute_116 ?_
      refine s_mem σ16 eσ16 ?_
      refine s_goto (tgt := 21) hX dX3_execute_119 (by decide) ?_
      refine s_mask [true, true, true, false] ?_
      exact hrec _ _ h hk hr
set_option maxHeartbeats 4000000 in
theorem cX3_execute_r_ok (l : Launch) {σ : Mm} {l1 : Int32} {r : Int32} {σ' : Mm}  (h : fX3_execute_r σ l1 = some (r, σ')) : cI l yX3_execute cX3_execute 4 .boolean 4 92 (fun ad => [.ref (ad 107), .int l1]) σ r σ' := by
  refine c_enterI (fun ad => [some (.ref (ad 107)), some (.int l1), none, none]) (by decide) (fun ad => ⟨by simp [Value.category], Nat.le_of_ble_eq_true rfl⟩) (fun ad => ⟨2, rfl⟩) ?_
  intro X _ hX hret
  have hcs : ((0 : Nat), (0 : Nat)).1 ≤ (sR X).cells ∧ ((0 : Nat), (0 : Nat)).2 ≤ (sR X).slots := ⟨Nat.zero_le _, Nat.zero_le _⟩
  generalize hcs0 : ((0 : Nat), (0 : Nat)) = cs at hcs hret ⊢
  unfold fX3_execute_r at h
  show sW X 4 cs σ 0 [some (.ref (sad X 107)), some (.int l1), none, none] []
  refine s_aload_n hX dX3_execute_0 rfl ?_
  obtain ⟨σ1, hc, h⟩ := bn_some h
  refine s_callVV _ hX (cX3_reset_r_ok (sl X)  hc) SH_107 mv_RX3_19_5 (fun _ => rfl) (by decide) (Nat.le_of_ble_eq_true rfl) hcs dX3_execute_1 rfl ?_
  refine s_aload_n hX dX3_execute_4 rfl ?_
  obtain ⟨σ2, hc, h⟩ := bn_some h
  refine s_callVV _ hX (cX6_prepare_ok (sl X)  hc) SH_107 mv_RX3_22_5 (fun _ => rfl) (by decide) (Nat.le_of_ble_eq_true rfl) hcs dX3_execute_5 rfl ?_
  refine s_aload_n hX dX3_execute_8 rfl ?_
  refine s_iconst (-1) hX dX3_execute_9 (by decide) ?_
  refine s_iconst 0 hX dX3_execute_10 (by decide) ?_
  obtain ⟨σ3, hc, h⟩ := bn_some h
  refine s_callVV _ hX (cX3_moveTo_r_ok (sl X)  hc) SH_107 mv_RX3_25_5 (fun _ => rfl) (by decide) (Nat.le_of_ble_eq_true rfl) hcs dX3_execute_11 rfl ?_
  refine s_iconst 0 hX dX3_execute_14 (by decide) ?_
  refine s_istore_n hX dX3_execute_15 (by decide) ?_
  refine s_aload_n hX dX3_execute_16 rfl ?_
  refine s_iconst 1 hX dX3_execute_17 (by decide) ?_
  obtain ⟨σ4, eσ4, h⟩ := bd_some h
  refine s_putI hX fo_RX3_29_5 SH_107 rfl dX3_execute_18 ?_
  refine s_mem σ4 eσ4 ?_
  refine s_mask [true, true, true, false] ?_
  rcases bns_some h with ⟨u, hc, h⟩ | ⟨u, hc, h⟩
  · cases h
    exact pX3_execute_r_21 hX hcs _ _ _ _ hc (fun _ e => nomatch e) (fun w e pc L nn d => by cases e; exact hret pc L nn d)
  · obtain ⟨σ5, e0⟩ : ∃ z, z = u := ⟨u, rfl⟩
    subst e0
    refine pX3_execute_r_21 hX hcs _ _ _ _ hc (fun w e => ?_) (fun w e => nomatch e)
    cases e
    refine s_iconst 0 hX dX3_execute_122 (by decide) ?_
    obtain ⟨rfl, rfl⟩ := rt2 h
    exact hret _ _ nz0 dX3_execute_123
def gX9_profile_4  (rec : Mm × Int32 × Int32 → Option (Mm × Int32)) (σ : Mm) (x1 : Int32) (x2 : Int32) : Option (Mm × Int32) :=
  if (σ 1 2) ≤ x2 then
  some (σ, x1)
else
  gd x2 8 <|
  bd (mx 1 (σ 122 x2.toNatClampNeg)) fun v2 =>
  gd x2 8 <|
  bd (4 + 5 * x2.toNatClampNeg) fun k4 =>
  if (σ k4 9) = v2 then
  bd (x2 + 1) fun v5 =>
  rec (σ, x1, v5)
else
  gd x2 8 <|
  bd (4 + 5 * x2.toNatClampNeg) fun k7 =>
  bd (upm σ k7 (upd (σ k7) 9 v2)) fun σ8 =>
  bd (x1 + 1) fun v9 =>
  bd (x2 + 1) fun v10 =>
  rec (σ8, v9, v10)
def qX9_profile_4  : Nat → Mm × Int32 × Int32 → Option (Mm × Int32) := lp (fun rec s => gX9_profile_4  rec s.1 s.2.1 s.2.2)
def fX9_profile (σ : Mm) : Option (Int32 × Mm) :=
  bn2 (qX9_profile_4  FU (σ, 0, 0)) fun σ1 v2 =>
  (fX9_programChanged σ1).bind fun σ3 =>
  some (v2, σ3)
set_option maxHeartbeats 4000000 in
theorem pX9_profile_4 {X : sT} {cs : Nat × Nat} (hX : sX X cX9_profile RX9 4 1 40) (hcs : cs.1 ≤ (sR X).cells ∧ cs.2 ≤ (sR X).slots)   : ∀ (n : Nat) (s : Mm × Int32 × Int32) (r : Mm × Int32), qX9_profile_4  n s = some r → sW X 4 cs r.1 64 [some (.ref (sad X 0)), some (.int r.2), none, none] [] → sW X 4 cs s.1 4 [some (.ref (sad X 0)), some (.int s.2.1), some (.int s.2.2), none] [] := by
  refine lp_ind (P := fun (s : Mm × Int32 × Int32) (r : Mm × Int32) => sW X 4 cs r.1 64 [some (.ref (sad X 0)), some (.int r.2), none, none] [] → sW X 4 cs s.1 4 [some (.ref (sad X 0)), some (.int s.2.1), some (.int s.2.2), none] []) ?_
  intro rec hrec s r h0 hk
  obtain ⟨σ, x1, x2⟩ := s
  have h : gX9_profile_4  rec σ x1 x2 = some r := h0
  unfold gX9_profile_4 at h
  show sW X 4 cs σ 4 [some (.ref (sad X 0)), some (.int x1), some (.int x2), none] []
  refine s_iload_n hX dX9_profile_4 rfl ?_
  refine s_aload_n hX dX9_profile_5 rfl ?_
  refine s_getR (r := 1) hX fo_RX9_25_8 SH_0 rfl dX9_profile_6 ?_
  refine s_getI hX fo_RX9_83_6 SH_1 rfl dX9_profile_9 ?_
  refine s_ic_ge (tgt := 64) hX dX9_profile_12 (by decide) (fun c12 => ?_) (fun c12 => ?_)
  · replace h := (if_pos c12).symm.trans h
    obtain rfl := rt1 h
    refine s_mask [true, true, false, false] ?_
    exact hk
  · replace h := (if_neg c12).symm.trans h
    refine s_iconst 1 hX dX9_profile_15 (by decide) ?_
    refine s_aload_n hX dX9_profile_16 rfl ?_
    refine s_getR (r := 122) hX fo_RX9_73_8 SH_0 rfl dX9_profile_17 ?_
    refine s_iload_n hX dX9_profile_20 rfl ?_
    obtain ⟨c1, h⟩ := gd_some h
    refine s_iald hX SH_122 c1 dX9_profile_21 ?_
    refine s_max hX w3_59 (by decide) (Nat.le_of_ble_eq_true rfl) hcs dX9_profile_22 ?_
    obtain ⟨v2, ev2, h⟩ := bd_some h
    refine s_topi v2 ev2 ?_
    refine s_istore_n hX dX9_profile_25 (by decide) ?_
    refine s_aload_n hX dX9_profile_26 rfl ?_
    refine s_getR (r := 1) hX fo_RX9_25_8 SH_0 rfl dX9_profile_27 ?_
    refine s_getR (r := 2) hX fo_RX9_103_6 SH_1 rfl dX9_profile_30 ?_
    refine s_iload_n hX dX9_profile_33 rfl ?_
    obtain ⟨c3, h⟩ := gd_some h
    obtain ⟨k4, ek4, h⟩ := bd_some h
    have Bk4 : isB k4 := Or.inl ⟨_, vp_lt c3, ek4⟩
    refine s_aaldP hX c3 dX9_profile_34 ?_
    refine s_topr k4 ek4 ?_
    refine s_getI hX fo_RX9_140_0 (isB_0 Bk4) rfl dX9_profile_35 ?_
    refine s_iload_n hX dX9_profile_38 rfl ?_
    refine s_ic_eq (tgt := 58) hX dX9_profile_39 (by decide) (fun c11 => ?_) (fun c11 => ?_)
    · replace h := (if_pos c11).symm.trans h
      obtain ⟨v5, ev5, h⟩ := bd_some h
      refine s_iinc v5 hX dX9_profile_58 rfl (by rw [ev5]; rfl) (by decide) ?_
      refine s_goto (tgt := 4) hX dX9_profile_61 (by decide) ?_
      refine s_mask [true, true, true, false] ?_
      exact hrec _ _ h hk
    · replace h := (if_neg c11).symm.trans h
      refine s_aload_n hX dX9_profile_42 rfl ?_
      refine s_getR (r := 1) hX fo_RX9_25_8 SH_0 rfl dX9_profile_43 ?_
      refine s_getR (r := 2) hX fo_RX9_103_6 SH_1 rfl dX9_profile_46 ?_
      refine s_iload_n hX dX9_profile_49 rfl ?_
      obtain ⟨c6, h⟩ := gd_some h
      obtain ⟨k7, ek7, h⟩ := bd_some h
      have Bk7 : isB k7 := Or.inl ⟨_, vp_lt c6, ek7⟩
      refine s_aaldP hX c6 dX9_profile_50 ?_
      refine s_topr k7 ek7 ?_
      refine s_iload_n hX dX9_profile_51 rfl ?_
      obtain ⟨σ8, eσ8, h⟩ := bd_some h
      refine s_putI hX fo_RX9_140_0 (isB_0 Bk7) rfl dX9_profile_52 ?_
      refine s_mem σ8 eσ8 ?_
      obtain ⟨v9, ev9, h⟩ := bd_some h
      refine s_iinc v9 hX dX9_profile_55 rfl (by rw [ev9]; rfl) (by decide) ?_
      obtain ⟨v10, ev10, h⟩ := bd_some h
      refine s_iinc v10 hX dX9_profile_58 rfl (by rw [ev10]; rfl) (by decide) ?_
      refine s_goto (tgt := 4) hX dX9_profile_61 (by decide) ?_
      refine s_mask [true, true, true, false] ?_
      exact hrec _ _ h hk
set_option maxHeartbeats 4000000 in
theorem cX9_profile_ok (l : Launch) {σ : Mm} {r : Int32} {σ' : Mm}  (h : fX9_profile σ = some (r, σ')) : cI l yX9_profile cX9_profile 4 .int 1 40 (fun ad => [.ref (ad 0)]) σ r σ' := by
  refine c_enterI (fun ad => [some (.ref (ad 0)), none, none, none]) (by decide) (fun ad => ⟨by simp [Value.category], Nat.le_of_ble_eq_true rfl⟩) (fun ad => ⟨3, rfl⟩) ?_
  intro X _ hX hret
  have hcs : ((0 : Nat), (0 : Nat)).1 ≤ (sR X).cells ∧ ((0 : Nat), (0 : Nat)).2 ≤ (sR X).slots := ⟨Nat.zero_le _, Nat.zero_le _⟩
  generalize hcs0 : ((0 : Nat), (0 : Nat)) = cs at hcs hret ⊢
  unfold fX9_profile at h
  show sW X 4 cs σ 0 [some (.ref (sad X 0)), none, none, none] []
  refine s_iconst 0 hX dX9_profile_0 (by decide) ?_
  refine s_istore_n hX dX9_profile_1 (by decide) ?_
  refine s_iconst 0 hX dX9_profile_2 (by decide) ?_
  refine s_istore_n hX dX9_profile_3 (by decide) ?_
  obtain ⟨σ1, v2, hc, h⟩ := bn2_some h
  refine s_mask [true, true, true, false] ?_
  refine pX9_profile_4 hX hcs  _ _ _ hc ?_
  refine s_aload_n hX dX9_profile_64 rfl ?_
  obtain ⟨σ3, hc, h⟩ := bn_some h
  refine s_callVV _ hX (cX9_programChanged_ok (sl X)  hc) SH_0 mv_RX9_91_8 (fun _ => rfl) (by decide) (Nat.le_of_ble_eq_true rfl) hcs dX9_profile_65 rfl ?_
  refine s_iload_n hX dX9_profile_68 rfl ?_
  obtain ⟨rfl, rfl⟩ := rt2 h
  exact hret _ _ (nzi _) dX9_profile_69
def fX0_copyCode (σ : Mm) (k : Nat) (k1 : Nat) : Option Mm :=
  bd (upm σ (k + 1) (va_cpy (σ (k1 + 1)) (σ (k + 1)) 0 0 8)) fun σ1 =>
  bd (upm σ1 (k + 2) (va_cpy (σ1 (k1 + 2)) (σ1 (k + 2)) 0 0 8)) fun σ2 =>
  bd (upm σ2 (k + 3) (va_cpy (σ2 (k1 + 3)) (σ2 (k + 3)) 0 0 8)) fun σ3 =>
  bd (upm σ3 (k + 4) (va_cpy (σ3 (k1 + 4)) (σ3 (k + 4)) 0 0 8)) fun σ4 =>
  bd (upm σ4 k (upd (σ4 k) 4 (σ4 k1 4))) fun σ5 =>
  (fX0_finish σ5 k (σ5 k1 5) (σ5 k1 6) (σ5 k1 7) (σ5 k1 8)).bind fun σ6 =>
  some σ6
set_option maxHeartbeats 4000000 in
theorem cX0_copyCode_ok (l : Launch) {σ : Mm} {k : Nat} {k1 : Nat} {σ' : Mm} (hB : isB k) (hB1 : isB k1) (h : fX0_copyCode σ k k1 = some σ') : cV l yX0_copyCode cX0_copyCode 2 1 40 (fun ad => [.ref (ad k), .ref (ad k1)]) σ σ' := by
  refine c_enterV (fun ad => [some (.ref (ad k)), some (.ref (ad k1))]) (by decide) (fun ad => ⟨by simp [Value.category], Nat.le_of_ble_eq_true rfl⟩) (fun ad => ⟨0, rfl⟩) ?_
  intro X _ hX hret
  have hcs : ((0 : Nat), (0 : Nat)).1 ≤ (sR X).cells ∧ ((0 : Nat), (0 : Nat)).2 ≤ (sR X).slots := ⟨Nat.zero_le _, Nat.zero_le _⟩
  generalize hcs0 : ((0 : Nat), (0 : Nat)) = cs at hcs hret ⊢
  unfold fX0_copyCode at h
  show sW X 2 cs σ 0 [some (.ref (sad X k)), some (.ref (sad X k1))] []
  refine s_aload_n hX dX0_copyCode_0 rfl ?_
  refine s_getR (r := k1 + 1) hX fo_RX0_9_0 (isB_0 hB1) rfl dX0_copyCode_1 ?_
  refine s_iconst 0 hX dX0_copyCode_4 (by decide) ?_
  refine s_aload_n hX dX0_copyCode_5 rfl ?_
  refine s_getR (r := k + 1) hX fo_RX0_9_0 (isB_0 hB) rfl dX0_copyCode_6 ?_
  refine s_iconst 0 hX dX0_copyCode_9 (by decide) ?_
  refine s_bipush 8 hX dX0_copyCode_10 (by decide) ?_
  obtain ⟨σ1, eσ1, h⟩ := bd_some h
  refine s_copy hX (isB_r hB1).1 (isB_r hB).1 w3_80 (by decide) (by decide) (Nat.le_of_ble_eq_true rfl) dX0_copyCode_12 ?_
  refine s_mem σ1 eσ1 ?_
  refine s_aload_n hX dX0_copyCode_15 rfl ?_
  refine s_getR (r := k1 + 2) hX fo_RX0_15_0 (isB_0 hB1) rfl dX0_copyCode_16 ?_
  refine s_iconst 0 hX dX0_copyCode_19 (by decide) ?_
  refine s_aload_n hX dX0_copyCode_20 rfl ?_
  refine s_getR (r := k + 2) hX fo_RX0_15_0 (isB_0 hB) rfl dX0_copyCode_21 ?_
  refine s_iconst 0 hX dX0_copyCode_24 (by decide) ?_
  refine s_bipush 8 hX dX0_copyCode_25 (by decide) ?_
  obtain ⟨σ2, eσ2, h⟩ := bd_some h
  refine s_copy hX (isB_r hB1).2.1 (isB_r hB).2.1 w3_80 (by decide) (by decide) (Nat.le_of_ble_eq_true rfl) dX0_copyCode_27 ?_
  refine s_mem σ2 eσ2 ?_
  refine s_aload_n hX dX0_copyCode_30 rfl ?_
  refine s_getR (r := k1 + 3) hX fo_RX0_18_0 (isB_0 hB1) rfl dX0_copyCode_31 ?_
  refine s_iconst 0 hX dX0_copyCode_34 (by decide) ?_
  refine s_aload_n hX dX0_copyCode_35 rfl ?_
  refine s_getR (r := k + 3) hX fo_RX0_18_0 (isB_0 hB) rfl dX0_copyCode_36 ?_
  refine s_iconst 0 hX dX0_copyCode_39 (by decide) ?_
  refine s_bipush 8 hX dX0_copyCode_40 (by decide) ?_
  obtain ⟨σ3, eσ3, h⟩ := bd_some h
  refine s_copy hX (isB_r hB1).2.2.1 (isB_r hB).2.2.1 w3_80 (by decide) (by decide) (Nat.le_of_ble_eq_true rfl) dX0_copyCode_42 ?_
  refine s_mem σ3 eσ3 ?_
  refine s_aload_n hX dX0_copyCode_45 rfl ?_
  refine s_getR (r := k1 + 4) hX fo_RX0_21_0 (isB_0 hB1) rfl dX0_copyCode_46 ?_
  refine s_iconst 0 hX dX0_copyCode_49 (by decide) ?_
  refine s_aload_n hX dX0_copyCode_50 rfl ?_
  refine s_getR (r := k + 4) hX fo_RX0_21_0 (isB_0 hB) rfl dX0_copyCode_51 ?_
  refine s_iconst 0 hX dX0_copyCode_54 (by decide) ?_
  refine s_bipush 8 hX dX0_copyCode_55 (by decide) ?_
  obtain ⟨σ4, eσ4, h⟩ := bd_some h
  refine s_copy hX (isB_r hB1).2.2.2 (isB_r hB).2.2.2 w3_80 (by decide) (by decide) (Nat.le_of_ble_eq_true rfl) dX0_copyCode_57 ?_
  refine s_mem σ4 eσ4 ?_
  refine s_aload_n hX dX0_copyCode_60 rfl ?_
  refine s_aload_n hX dX0_copyCode_61 rfl ?_
  refine s_getI hX fo_RX0_27_0 (isB_0 hB1) rfl dX0_copyCode_62 ?_
  obtain ⟨σ5, eσ5, h⟩ := bd_some h
  refine s_putI hX fo_RX0_27_0 (isB_0 hB) rfl dX0_copyCode_65 ?_
  refine s_mem σ5 eσ5 ?_
  refine s_aload_n hX dX0_copyCode_68 rfl ?_
  refine s_aload_n hX dX0_copyCode_69 rfl ?_
  refine s_getI hX fo_RX0_38_0 (isB_0 hB1) rfl dX0_copyCode_70 ?_
  refine s_aload_n hX dX0_copyCode_73 rfl ?_
  refine s_getI hX fo_RX0_41_0 (isB_0 hB1) rfl dX0_copyCode_74 ?_
  refine s_aload_n hX dX0_copyCode_77 rfl ?_
  refine s_getI hX fo_RX0_44_0 (isB_0 hB1) rfl dX0_copyCode_78 ?_
  refine s_aload_n hX dX0_copyCode_81 rfl ?_
  refine s_getI hX fo_RX0_47_0 (isB_0 hB1) rfl dX0_copyCode_82 ?_
  obtain ⟨σ6, hc, h⟩ := bn_some h
  refine s_callVV _ hX (cX0_finish_ok (sl X) hB hc) (isB_0 hB) mv_RX0_31_0 (fun _ => rfl) (by decide) (Nat.le_of_ble_eq_true rfl) hcs dX0_copyCode_85 rfl ?_
  obtain rfl := rt1 h
  exact hret _ _ dX0_copyCode_88
def gX7_copy_s_1_2  (rec : Mm × Int32 → Option (Mm)) (σ : Mm) (x2 : Int32) : Option (Mm) :=
  if 8 ≤ x2 then
  some σ
else
  gd x2 8 <|
  bd (47 + 5 * x2.toNatClampNeg) fun k2 =>
  gd x2 8 <|
  bd (4 + 5 * x2.toNatClampNeg) fun k4 =>
  (fX0_copyCode σ k2 k4).bind fun σ5 =>
  gd x2 8 <|
  bd (47 + 5 * x2.toNatClampNeg) fun k7 =>
  gd x2 8 <|
  bd (4 + 5 * x2.toNatClampNeg) fun k9 =>
  bd (upm σ5 k7 (upd (σ5 k7) 9 (σ5 k9 9))) fun σ10 =>
  bd (x2 + 1) fun v11 =>
  rec (σ10, v11)
def qX7_copy_s_1_2  : Nat → Mm × Int32 → Option (Mm) := lp (fun rec s => gX7_copy_s_1_2  rec s.1 s.2)
def fX7_copy_s_1 (σ : Mm) : Option Mm :=
  (qX7_copy_s_1_2  FU (σ, 0)).bind fun σ1 =>
  bd (upm σ1 46 (va_cpy (σ1 3) (σ1 46) 0 0 12)) fun σ2 =>
  bd (upm σ2 44 (upd (σ2 44) 2 (σ2 1 2))) fun σ3 =>
  some σ3
set_option maxHeartbeats 4000000 in
theorem pX7_copy_s_1_2 {X : sT} {cs : Nat × Nat} (hX : sX X cX7_copy RX7 3 2 61) (hcs : cs.1 ≤ (sR X).cells ∧ cs.2 ≤ (sR X).slots)   : ∀ (n : Nat) (s : Mm × Int32) (r : Mm), qX7_copy_s_1_2  n s = some r → sW X 3 cs r 47 [some (.ref (sad X 44)), some (.ref (sad X 1)), none] [] → sW X 3 cs s.1 2 [some (.ref (sad X 44)), some (.ref (sad X 1)), some (.int s.2)] [] := by
  refine lp_ind (P := fun (s : Mm × Int32) (r : Mm) => sW X 3 cs r 47 [some (.ref (sad X 44)), some (.ref (sad X 1)), none] [] → sW X 3 cs s.1 2 [some (.ref (sad X 44)), some (.ref (sad X 1)), some (.int s.2)] []) ?_
  intro rec hrec s r h0 hk
  obtain ⟨σ, x2⟩ := s
  have h : gX7_copy_s_1_2  rec σ x2 = some r := h0
  unfold gX7_copy_s_1_2 at h
  show sW X 3 cs σ 2 [some (.ref (sad X 44)), some (.ref (sad X 1)), some (.int x2)] []
  refine s_iload_n hX dX7_copy_2 rfl ?_
  refine s_bipush 8 hX dX7_copy_3 (by decide) ?_
  refine s_ic_ge (tgt := 47) hX dX7_copy_5 (by decide) (fun c12 => ?_) (fun c12 => ?_)
  · replace h := (if_pos c12).symm.trans h
    obtain rfl := rt1 h
    refine s_mask [true, true, false] ?_
    exact hk
  · replace h := (if_neg c12).symm.trans h
    refine s_aload_n hX dX7_copy_8 rfl ?_
    refine s_getR (r := 45) hX fo_RX7_11_6 SH_44 rfl dX7_copy_9 ?_
    refine s_iload_n hX dX7_copy_12 rfl ?_
    obtain ⟨c1, h⟩ := gd_some h
    obtain ⟨k2, ek2, h⟩ := bd_some h
    have Bk2 : isB k2 := Or.inr (Or.inl ⟨_, vp_lt c1, ek2⟩)
    refine s_aaldS hX c1 dX7_copy_13 ?_
    refine s_topr k2 ek2 ?_
    refine s_aload_n hX dX7_copy_14 rfl ?_
    refine s_getR (r := 2) hX fo_RX7_11_6 SH_1 rfl dX7_copy_15 ?_
    refine s_iload_n hX dX7_copy_18 rfl ?_
    obtain ⟨c3, h⟩ := gd_some h
    obtain ⟨k4, ek4, h⟩ := bd_some h
    have Bk4 : isB k4 := Or.inl ⟨_, vp_lt c3, ek4⟩
    refine s_aaldP hX c3 dX7_copy_19 ?_
    refine s_topr k4 ek4 ?_
    obtain ⟨σ5, hc, h⟩ := bn_some h
    refine s_callVV _ hX (cX0_copyCode_ok (sl X) Bk2 Bk4 hc) (isB_0 Bk2) mv_RX7_35_0 (fun _ => rfl) (by decide) (Nat.le_of_ble_eq_true rfl) hcs dX7_copy_20 rfl ?_
    refine s_aload_n hX dX7_copy_23 rfl ?_
    refine s_getR (r := 45) hX fo_RX7_11_6 SH_44 rfl dX7_copy_24 ?_
    refine s_iload_n hX dX7_copy_27 rfl ?_
    obtain ⟨c6, h⟩ := gd_some h
    obtain ⟨k7, ek7, h⟩ := bd_some h
    have Bk7 : isB k7 := Or.inr (Or.inl ⟨_, vp_lt c6, ek7⟩)
    refine s_aaldS hX c6 dX7_copy_28 ?_
    refine s_topr k7 ek7 ?_
    refine s_aload_n hX dX7_copy_29 rfl ?_
    refine s_getR (r := 2) hX fo_RX7_11_6 SH_1 rfl dX7_copy_30 ?_
    refine s_iload_n hX dX7_copy_33 rfl ?_
    obtain ⟨c8, h⟩ := gd_some h
    obtain ⟨k9, ek9, h⟩ := bd_some h
    have Bk9 : isB k9 := Or.inl ⟨_, vp_lt c8, ek9⟩
    refine s_aaldP hX c8 dX7_copy_34 ?_
    refine s_topr k9 ek9 ?_
    refine s_getI hX fo_RX7_39_0 (isB_0 Bk9) rfl dX7_copy_35 ?_
    obtain ⟨σ10, eσ10, h⟩ := bd_some h
    refine s_putI hX fo_RX7_39_0 (isB_0 Bk7) rfl dX7_copy_38 ?_
    refine s_mem σ10 eσ10 ?_
    obtain ⟨v11, ev11, h⟩ := bd_some h
    refine s_iinc v11 hX dX7_copy_41 rfl (by rw [ev11]; rfl) (by decide) ?_
    refine s_goto (tgt := 2) hX dX7_copy_44 (by decide) ?_
    refine s_mask [true, true, true] ?_
    exact hrec _ _ h hk
set_option maxHeartbeats 4000000 in
theorem cX7_copy_s_1_ok (l : Launch) {σ : Mm} {σ' : Mm}  (h : fX7_copy_s_1 σ = some σ') : cV l yX7_copy cX7_copy 3 2 61 (fun ad => [.ref (ad 44), .ref (ad 1)]) σ σ' := by
  refine c_enterV (fun ad => [some (.ref (ad 44)), some (.ref (ad 1)), none]) (by decide) (fun ad => ⟨by simp [Value.category], Nat.le_of_ble_eq_true rfl⟩) (fun ad => ⟨1, rfl⟩) ?_
  intro X _ hX hret
  have hcs : ((0 : Nat), (0 : Nat)).1 ≤ (sR X).cells ∧ ((0 : Nat), (0 : Nat)).2 ≤ (sR X).slots := ⟨Nat.zero_le _, Nat.zero_le _⟩
  generalize hcs0 : ((0 : Nat), (0 : Nat)) = cs at hcs hret ⊢
  unfold fX7_copy_s_1 at h
  show sW X 3 cs σ 0 [some (.ref (sad X 44)), some (.ref (sad X 1)), none] []
  refine s_iconst 0 hX dX7_copy_0 (by decide) ?_
  refine s_istore_n hX dX7_copy_1 (by decide) ?_
  obtain ⟨σ1, hc, h⟩ := bn_some h
  refine s_mask [true, true, true] ?_
  refine pX7_copy_s_1_2 hX hcs  _ _ _ hc ?_
  refine s_aload_n hX dX7_copy_47 rfl ?_
  refine s_getR (r := 3) hX fo_RX7_17_6 SH_1 rfl dX7_copy_48 ?_
  refine s_iconst 0 hX dX7_copy_51 (by decide) ?_
  refine s_aload_n hX dX7_copy_52 rfl ?_
  refine s_getR (r := 46) hX fo_RX7_17_6 SH_44 rfl dX7_copy_53 ?_
  refine s_iconst 0 hX dX7_copy_56 (by decide) ?_
  refine s_bipush 12 hX dX7_copy_57 (by decide) ?_
  obtain ⟨σ2, eσ2, h⟩ := bd_some h
  refine s_copy hX SH_3 SH_46 w3_83 (by decide) (by decide) (Nat.le_of_ble_eq_true rfl) dX7_copy_59 ?_
  refine s_mem σ2 eσ2 ?_
  refine s_aload_n hX dX7_copy_62 rfl ?_
  refine s_aload_n hX dX7_copy_63 rfl ?_
  refine s_getI hX fo_RX7_22_6 SH_1 rfl dX7_copy_64 ?_
  obtain ⟨σ3, eσ3, h⟩ := bd_some h
  refine s_putI hX fo_RX7_22_6 SH_44 rfl dX7_copy_67 ?_
  refine s_mem σ3 eσ3 ?_
  obtain rfl := rt1 h
  exact hret _ _ dX7_copy_70
def fX9_saveSnapshot (σ : Mm) : Option (Int32 × Mm) :=
  (fX7_copy_s_1 σ).bind fun σ1 =>
  bd (upm σ1 0 (upd (σ1 0) 11 1)) fun σ2 =>
  some (σ2 1 2, σ2)
set_option maxHeartbeats 4000000 in
theorem cX9_saveSnapshot_ok (l : Launch) {σ : Mm} {r : Int32} {σ' : Mm}  (h : fX9_saveSnapshot σ = some (r, σ')) : cI l yX9_saveSnapshot cX9_saveSnapshot 1 .int 3 83 (fun ad => [.ref (ad 0)]) σ r σ' := by
  refine c_enterI (fun ad => [some (.ref (ad 0))]) (by decide) (fun ad => ⟨by simp [Value.category], Nat.le_of_ble_eq_true rfl⟩) (fun ad => ⟨0, rfl⟩) ?_
  intro X _ hX hret
  have hcs : ((0 : Nat), (0 : Nat)).1 ≤ (sR X).cells ∧ ((0 : Nat), (0 : Nat)).2 ≤ (sR X).slots := ⟨Nat.zero_le _, Nat.zero_le _⟩
  generalize hcs0 : ((0 : Nat), (0 : Nat)) = cs at hcs hret ⊢
  unfold fX9_saveSnapshot at h
  show sW X 1 cs σ 0 [some (.ref (sad X 0))] []
  refine s_aload_n hX dX9_saveSnapshot_0 rfl ?_
  refine s_getR (r := 44) hX fo_RX9_29_8 SH_0 rfl dX9_saveSnapshot_1 ?_
  refine s_aload_n hX dX9_saveSnapshot_4 rfl ?_
  refine s_getR (r := 1) hX fo_RX9_25_8 SH_0 rfl dX9_saveSnapshot_5 ?_
  obtain ⟨σ1, hc, h⟩ := bn_some h
  refine s_callVV _ hX (cX7_copy_s_1_ok (sl X)  hc) SH_44 mv_RX9_314_6 (fun _ => rfl) (by decide) (Nat.le_of_ble_eq_true rfl) hcs dX9_saveSnapshot_8 rfl ?_
  refine s_aload_n hX dX9_saveSnapshot_11 rfl ?_
  refine s_iconst 1 hX dX9_saveSnapshot_12 (by decide) ?_
  obtain ⟨σ2, eσ2, h⟩ := bd_some h
  refine s_putZ hX fo_RX9_317_8 SH_0 rfl (Or.inr rfl) dX9_saveSnapshot_13 ?_
  refine s_mem σ2 eσ2 ?_
  refine s_aload_n hX dX9_saveSnapshot_16 rfl ?_
  refine s_getR (r := 1) hX fo_RX9_25_8 SH_0 rfl dX9_saveSnapshot_17 ?_
  refine s_getI hX fo_RX9_83_6 SH_1 rfl dX9_saveSnapshot_20 ?_
  obtain ⟨rfl, rfl⟩ := rt2 h
  exact hret _ _ (nzi _) dX9_saveSnapshot_23
def gX7_copy_p_44_2  (rec : Mm × Int32 → Option (Mm)) (σ : Mm) (x2 : Int32) : Option (Mm) :=
  if 8 ≤ x2 then
  some σ
else
  gd x2 8 <|
  bd (4 + 5 * x2.toNatClampNeg) fun k2 =>
  gd x2 8 <|
  bd (47 + 5 * x2.toNatClampNeg) fun k4 =>
  (fX0_copyCode σ k2 k4).bind fun σ5 =>
  gd x2 8 <|
  bd (4 + 5 * x2.toNatClampNeg) fun k7 =>
  gd x2 8 <|
  bd (47 + 5 * x2.toNatClampNeg) fun k9 =>
  bd (upm σ5 k7 (upd (σ5 k7) 9 (σ5 k9 9))) fun σ10 =>
  bd (x2 + 1) fun v11 =>
  rec (σ10, v11)
def qX7_copy_p_44_2  : Nat → Mm × Int32 → Option (Mm) := lp (fun rec s => gX7_copy_p_44_2  rec s.1 s.2)
def fX7_copy_p_44 (σ : Mm) : Option Mm :=
  (qX7_copy_p_44_2  FU (σ, 0)).bind fun σ1 =>
  bd (upm σ1 3 (va_cpy (σ1 46) (σ1 3) 0 0 12)) fun σ2 =>
  bd (upm σ2 1 (upd (σ2 1) 2 (σ2 44 2))) fun σ3 =>
  some σ3
set_option maxHeartbeats 4000000 in
theorem pX7_copy_p_44_2 {X : sT} {cs : Nat × Nat} (hX : sX X cX7_copy RX7 3 2 61) (hcs : cs.1 ≤ (sR X).cells ∧ cs.2 ≤ (sR X).slots)   : ∀ (n : Nat) (s : Mm × Int32) (r : Mm), qX7_copy_p_44_2  n s = some r → sW X 3 cs r 47 [some (.ref (sad X 1)), some (.ref (sad X 44)), none] [] → sW X 3 cs s.1 2 [some (.ref (sad X 1)), some (.ref (sad X 44)), some (.int s.2)] [] := by
  refine lp_ind (P := fun (s : Mm × Int32) (r : Mm) => sW X 3 cs r 47 [some (.ref (sad X 1)), some (.ref (sad X 44)), none] [] → sW X 3 cs s.1 2 [some (.ref (sad X 1)), some (.ref (sad X 44)), some (.int s.2)] []) ?_
  intro rec hrec s r h0 hk
  obtain ⟨σ, x2⟩ := s
  have h : gX7_copy_p_44_2  rec σ x2 = some r := h0
  unfold gX7_copy_p_44_2 at h
  show sW X 3 cs σ 2 [some (.ref (sad X 1)), some (.ref (sad X 44)), some (.int x2)] []
  refine s_iload_n hX dX7_copy_2 rfl ?_
  refine s_bipush 8 hX dX7_copy_3 (by decide) ?_
  refine s_ic_ge (tgt := 47) hX dX7_copy_5 (by decide) (fun c12 => ?_) (fun c12 => ?_)
  · replace h := (if_pos c12).symm.trans h
    obtain rfl := rt1 h
    refine s_mask [true, true, false] ?_
    exact hk
  · replace h := (if_neg c12).symm.trans h
    refine s_aload_n hX dX7_copy_8 rfl ?_
    refine s_getR (r := 2) hX fo_RX7_11_6 SH_1 rfl dX7_copy_9 ?_
    refine s_iload_n hX dX7_copy_12 rfl ?_
    obtain ⟨c1, h⟩ := gd_some h
    obtain ⟨k2, ek2, h⟩ := bd_some h
    have Bk2 : isB k2 := Or.inl ⟨_, vp_lt c1, ek2⟩
    refine s_aaldP hX c1 dX7_copy_13 ?_
    refine s_topr k2 ek2 ?_
    refine s_aload_n hX dX7_copy_14 rfl ?_
    refine s_getR (r := 45) hX fo_RX7_11_6 SH_44 rfl dX7_copy_15 ?_
    refine s_iload_n hX dX7_copy_18 rfl ?_
    obtain ⟨c3, h⟩ := gd_some h
    obtain ⟨k4, ek4, h⟩ := bd_some h
    have Bk4 : isB k4 := Or.inr (Or.inl ⟨_, vp_lt c3, ek4⟩)
    refine s_aaldS hX c3 dX7_copy_19 ?_
    refine s_topr k4 ek4 ?_
    obtain ⟨σ5, hc, h⟩ := bn_some h
    refine s_callVV _ hX (cX0_copyCode_ok (sl X) Bk2 Bk4 hc) (isB_0 Bk2) mv_RX7_35_0 (fun _ => rfl) (by decide) (Nat.le_of_ble_eq_true rfl) hcs dX7_copy_20 rfl ?_
    refine s_aload_n hX dX7_copy_23 rfl ?_
    refine s_getR (r := 2) hX fo_RX7_11_6 SH_1 rfl dX7_copy_24 ?_
    refine s_iload_n hX dX7_copy_27 rfl ?_
    obtain ⟨c6, h⟩ := gd_some h
    obtain ⟨k7, ek7, h⟩ := bd_some h
    have Bk7 : isB k7 := Or.inl ⟨_, vp_lt c6, ek7⟩
    refine s_aaldP hX c6 dX7_copy_28 ?_
    refine s_topr k7 ek7 ?_
    refine s_aload_n hX dX7_copy_29 rfl ?_
    refine s_getR (r := 45) hX fo_RX7_11_6 SH_44 rfl dX7_copy_30 ?_
    refine s_iload_n hX dX7_copy_33 rfl ?_
    obtain ⟨c8, h⟩ := gd_some h
    obtain ⟨k9, ek9, h⟩ := bd_some h
    have Bk9 : isB k9 := Or.inr (Or.inl ⟨_, vp_lt c8, ek9⟩)
    refine s_aaldS hX c8 dX7_copy_34 ?_
    refine s_topr k9 ek9 ?_
    refine s_getI hX fo_RX7_39_0 (isB_0 Bk9) rfl dX7_copy_35 ?_
    obtain ⟨σ10, eσ10, h⟩ := bd_some h
    refine s_putI hX fo_RX7_39_0 (isB_0 Bk7) rfl dX7_copy_38 ?_
    refine s_mem σ10 eσ10 ?_
    obtain ⟨v11, ev11, h⟩ := bd_some h
    refine s_iinc v11 hX dX7_copy_41 rfl (by rw [ev11]; rfl) (by decide) ?_
    refine s_goto (tgt := 2) hX dX7_copy_44 (by decide) ?_
    refine s_mask [true, true, true] ?_
    exact hrec _ _ h hk
set_option maxHeartbeats 4000000 in
theorem cX7_copy_p_44_ok (l : Launch) {σ : Mm} {σ' : Mm}  (h : fX7_copy_p_44 σ = some σ') : cV l yX7_copy cX7_copy 3 2 61 (fun ad => [.ref (ad 1), .ref (ad 44)]) σ σ' := by
  refine c_enterV (fun ad => [some (.ref (ad 1)), some (.ref (ad 44)), none]) (by decide) (fun ad => ⟨by simp [Value.category], Nat.le_of_ble_eq_true rfl⟩) (fun ad => ⟨1, rfl⟩) ?_
  intro X _ hX hret
  have hcs : ((0 : Nat), (0 : Nat)).1 ≤ (sR X).cells ∧ ((0 : Nat), (0 : Nat)).2 ≤ (sR X).slots := ⟨Nat.zero_le _, Nat.zero_le _⟩
  generalize hcs0 : ((0 : Nat), (0 : Nat)) = cs at hcs hret ⊢
  unfold fX7_copy_p_44 at h
  show sW X 3 cs σ 0 [some (.ref (sad X 1)), some (.ref (sad X 44)), none] []
  refine s_iconst 0 hX dX7_copy_0 (by decide) ?_
  refine s_istore_n hX dX7_copy_1 (by decide) ?_
  obtain ⟨σ1, hc, h⟩ := bn_some h
  refine s_mask [true, true, true] ?_
  refine pX7_copy_p_44_2 hX hcs  _ _ _ hc ?_
  refine s_aload_n hX dX7_copy_47 rfl ?_
  refine s_getR (r := 46) hX fo_RX7_17_6 SH_44 rfl dX7_copy_48 ?_
  refine s_iconst 0 hX dX7_copy_51 (by decide) ?_
  refine s_aload_n hX dX7_copy_52 rfl ?_
  refine s_getR (r := 3) hX fo_RX7_17_6 SH_1 rfl dX7_copy_53 ?_
  refine s_iconst 0 hX dX7_copy_56 (by decide) ?_
  refine s_bipush 12 hX dX7_copy_57 (by decide) ?_
  obtain ⟨σ2, eσ2, h⟩ := bd_some h
  refine s_copy hX SH_46 SH_3 w3_83 (by decide) (by decide) (Nat.le_of_ble_eq_true rfl) dX7_copy_59 ?_
  refine s_mem σ2 eσ2 ?_
  refine s_aload_n hX dX7_copy_62 rfl ?_
  refine s_aload_n hX dX7_copy_63 rfl ?_
  refine s_getI hX fo_RX7_22_6 SH_44 rfl dX7_copy_64 ?_
  obtain ⟨σ3, eσ3, h⟩ := bd_some h
  refine s_putI hX fo_RX7_22_6 SH_1 rfl dX7_copy_67 ?_
  refine s_mem σ3 eσ3 ?_
  obtain rfl := rt1 h
  exact hret _ _ dX7_copy_70
