def gX1_findRivals_33 (l1 : Int32) (k2 : Nat) (rec : Mm × Int32 → Option (Mm)) (σ : Mm) (x3 : Int32) : Option (Mm) :=
  if (σ k2 4) ≤ x3 then
  some σ
else
  gd x3 8 <|
  gd (((l1 * 9) + x3) + 1) 72 <|
  (fX1_addRivals σ (σ (k2 + 2) x3.toNatClampNeg) (σ 88 (((l1 * 9) + x3) + 1).toNatClampNeg)).bind fun σ3 =>
  bd (x3 + 1) fun v4 =>
  rec (σ3, v4)
def qX1_findRivals_33 (l1 : Int32) (k2 : Nat) : Nat → Mm × Int32 → Option (Mm) := lp (fun rec s => gX1_findRivals_33 l1 k2 rec s.1 s.2)
def gX1_findRivals_10  (rec : Mm × Int32 → Option (Mm)) (σ : Mm) (x1 : Int32) : Option (Mm) :=
  if (σ 1 2) ≤ x1 then
  some σ
else
  gd x1 8 <|
  bd (4 + 5 * x1.toNatClampNeg) fun k2 =>
  (qX1_findRivals_33 x1 k2 FU (σ, 0)).bind fun σ3 =>
  bd (x1 + 1) fun v4 =>
  rec (σ3, v4)
def qX1_findRivals_10  : Nat → Mm × Int32 → Option (Mm) := lp (fun rec s => gX1_findRivals_10  rec s.1 s.2)
def gX1_findRivals_84 (l1 : Int32) (rec : Mm × Int32 → Option (Mm)) (σ : Mm) (x2 : Int32) : Option (Mm) :=
  if 12 ≤ x2 then
  some σ
else
  (fX9_has σ l1 x2).bind fun r1 =>
  if r1 = 0 then
  bd (x2 + 1) fun v2 =>
  rec (σ, v2)
else
  (fX1_addRivals σ x2 l1).bind fun σ3 =>
  bd (x2 + 1) fun v4 =>
  rec (σ3, v4)
def qX1_findRivals_84 (l1 : Int32) : Nat → Mm × Int32 → Option (Mm) := lp (fun rec s => gX1_findRivals_84 l1 rec s.1 s.2)
def fX1_findRivals (σ : Mm) : Option Mm :=
  (fJ7_fill_53178 σ 91 12 0).bind fun σ1 =>
  (qX1_findRivals_10  FU (σ1, 0)).bind fun σ2 =>
  (fX1_liveAtBeginning σ2 0).bind fun r3 =>
  (qX1_findRivals_84 r3 FU (σ2, 0)).bind fun σ4 =>
  some σ4
set_option maxHeartbeats 4000000 in
theorem pX1_findRivals_33 {X : sT} {cs : Nat × Nat} (hX : sX X cX1_findRivals RX1 4 2 45) (hcs : cs.1 ≤ (sR X).cells ∧ cs.2 ≤ (sR X).slots) (l1 : Int32) (k2 : Nat) (hB2 : isB k2) : ∀ (n : Nat) (s : Mm × Int32) (r : Mm), qX1_findRivals_33 l1 k2 n s = some r → sW X 4 cs r 70 [some (.ref (sad X 87)), some (.int l1), none, none] [] → sW X 4 cs s.1 33 [some (.ref (sad X 87)), some (.int l1), some (.ref (sad X k2)), some (.int s.2)] [] := by
  refine lp_ind (P := fun (s : Mm × Int32) (r : Mm) => sW X 4 cs r 70 [some (.ref (sad X 87)), some (.int l1), none, none] [] → sW X 4 cs s.1 33 [some (.ref (sad X 87)), some (.int l1), some (.ref (sad X k2)), some (.int s.2)] []) ?_
  intro rec hrec s r h0 hk
  obtain ⟨σ, x3⟩ := s
  have h : gX1_findRivals_33 l1 k2 rec σ x3 = some r := h0
  unfold gX1_findRivals_33 at h
  show sW X 4 cs σ 33 [some (.ref (sad X 87)), some (.int l1), some (.ref (sad X k2)), some (.int x3)] []
  refine s_iload_n hX dX1_findRivals_33 rfl ?_
  refine s_aload_n hX dX1_findRivals_34 rfl ?_
  refine s_getI hX fo_RX1_80_0 (isB_0 hB2) rfl dX1_findRivals_35 ?_
  refine s_ic_ge (tgt := 70) hX dX1_findRivals_38 (by decide) (fun c5 => ?_) (fun c5 => ?_)
  · replace h := (if_pos c5).symm.trans h
    obtain rfl := rt1 h
    refine s_mask [true, true, false, false] ?_
    exact hk
  · replace h := (if_neg c5).symm.trans h
    refine s_aload_n hX dX1_findRivals_41 rfl ?_
    refine s_aload_n hX dX1_findRivals_42 rfl ?_
    refine s_getR (r := k2 + 2) hX fo_RX1_81_0 (isB_0 hB2) rfl dX1_findRivals_43 ?_
    refine s_iload_n hX dX1_findRivals_46 rfl ?_
    obtain ⟨c1, h⟩ := gd_some h
    refine s_iald hX (isB_r hB2).2.1 c1 dX1_findRivals_47 ?_
    refine s_aload_n hX dX1_findRivals_48 rfl ?_
    refine s_getR (r := 88) hX fo_RX1_9_1 SH_87 rfl dX1_findRivals_49 ?_
    refine s_iload_n hX dX1_findRivals_52 rfl ?_
    refine s_bipush 9 hX dX1_findRivals_53 (by decide) ?_
    refine s_imul hX dX1_findRivals_55 ?_
    refine s_iload_n hX dX1_findRivals_56 rfl ?_
    refine s_iadd hX dX1_findRivals_57 ?_
    refine s_iconst 1 hX dX1_findRivals_58 (by decide) ?_
    refine s_iadd hX dX1_findRivals_59 ?_
    obtain ⟨c2, h⟩ := gd_some h
    refine s_iald hX SH_88 c2 dX1_findRivals_60 ?_
    obtain ⟨σ3, hc, h⟩ := bn_some h
    refine s_callVV _ hX (cX1_addRivals_ok (sl X)  hc) SH_87 mv_RX1_97_1 (fun _ => rfl) (by decide) (Nat.le_of_ble_eq_true rfl) hcs dX1_findRivals_61 rfl ?_
    obtain ⟨v4, ev4, h⟩ := bd_some h
    refine s_iinc v4 hX dX1_findRivals_64 rfl (by rw [ev4]; rfl) (by decide) ?_
    refine s_goto (tgt := 33) hX dX1_findRivals_67 (by decide) ?_
    refine s_mask [true, true, true, true] ?_
    exact hrec _ _ h hk
set_option maxHeartbeats 4000000 in
theorem pX1_findRivals_10 {X : sT} {cs : Nat × Nat} (hX : sX X cX1_findRivals RX1 4 2 45) (hcs : cs.1 ≤ (sR X).cells ∧ cs.2 ≤ (sR X).slots)   : ∀ (n : Nat) (s : Mm × Int32) (r : Mm), qX1_findRivals_10  n s = some r → sW X 4 cs r 76 [some (.ref (sad X 87)), none, none, none] [] → sW X 4 cs s.1 10 [some (.ref (sad X 87)), some (.int s.2), none, none] [] := by
  refine lp_ind (P := fun (s : Mm × Int32) (r : Mm) => sW X 4 cs r 76 [some (.ref (sad X 87)), none, none, none] [] → sW X 4 cs s.1 10 [some (.ref (sad X 87)), some (.int s.2), none, none] []) ?_
  intro rec hrec s r h0 hk
  obtain ⟨σ, x1⟩ := s
  have h : gX1_findRivals_10  rec σ x1 = some r := h0
  unfold gX1_findRivals_10 at h
  show sW X 4 cs σ 10 [some (.ref (sad X 87)), some (.int x1), none, none] []
  refine s_iload_n hX dX1_findRivals_10 rfl ?_
  refine s_aload_n hX dX1_findRivals_11 rfl ?_
  refine s_getR (r := 1) hX fo_RX1_30_1 SH_87 rfl dX1_findRivals_12 ?_
  refine s_getI hX fo_RX1_49_6 SH_1 rfl dX1_findRivals_15 ?_
  refine s_ic_ge (tgt := 76) hX dX1_findRivals_18 (by decide) (fun c5 => ?_) (fun c5 => ?_)
  · replace h := (if_pos c5).symm.trans h
    obtain rfl := rt1 h
    refine s_mask [true, false, false, false] ?_
    exact hk
  · replace h := (if_neg c5).symm.trans h
    refine s_aload_n hX dX1_findRivals_21 rfl ?_
    refine s_getR (r := 1) hX fo_RX1_30_1 SH_87 rfl dX1_findRivals_22 ?_
    refine s_getR (r := 2) hX fo_RX1_59_6 SH_1 rfl dX1_findRivals_25 ?_
    refine s_iload_n hX dX1_findRivals_28 rfl ?_
    obtain ⟨c1, h⟩ := gd_some h
    obtain ⟨k2, ek2, h⟩ := bd_some h
    have Bk2 : isB k2 := Or.inl ⟨_, vp_lt c1, ek2⟩
    refine s_aaldP hX c1 dX1_findRivals_29 ?_
    refine s_topr k2 ek2 ?_
    refine s_astore_n hX dX1_findRivals_30 (by decide) ?_
    refine s_iconst 0 hX dX1_findRivals_31 (by decide) ?_
    refine s_istore_n hX dX1_findRivals_32 (by decide) ?_
    obtain ⟨σ3, hc, h⟩ := bn_some h
    refine s_mask [true, true, true, true] ?_
    refine pX1_findRivals_33 hX hcs _ _ Bk2 _ _ _ hc ?_
    obtain ⟨v4, ev4, h⟩ := bd_some h
    refine s_iinc v4 hX dX1_findRivals_70 rfl (by rw [ev4]; rfl) (by decide) ?_
    refine s_goto (tgt := 10) hX dX1_findRivals_73 (by decide) ?_
    refine s_mask [true, true, false, false] ?_
    exact hrec _ _ h hk
set_option maxHeartbeats 4000000 in
theorem pX1_findRivals_84 {X : sT} {cs : Nat × Nat} (hX : sX X cX1_findRivals RX1 4 2 45) (hcs : cs.1 ≤ (sR X).cells ∧ cs.2 ≤ (sR X).slots) (l1 : Int32)  : ∀ (n : Nat) (s : Mm × Int32) (r : Mm), qX1_findRivals_84 l1 n s = some r → sW X 4 cs r 110 [none, none, none, none] [] → sW X 4 cs s.1 84 [some (.ref (sad X 87)), some (.int l1), some (.int s.2), none] [] := by
  refine lp_ind (P := fun (s : Mm × Int32) (r : Mm) => sW X 4 cs r 110 [none, none, none, none] [] → sW X 4 cs s.1 84 [some (.ref (sad X 87)), some (.int l1), some (.int s.2), none] []) ?_
  intro rec hrec s r h0 hk
  obtain ⟨σ, x2⟩ := s
  have h : gX1_findRivals_84 l1 rec σ x2 = some r := h0
  unfold gX1_findRivals_84 at h
  show sW X 4 cs σ 84 [some (.ref (sad X 87)), some (.int l1), some (.int x2), none] []
  refine s_iload_n hX dX1_findRivals_84 rfl ?_
  refine s_bipush 12 hX dX1_findRivals_85 (by decide) ?_
  refine s_ic_ge (tgt := 110) hX dX1_findRivals_87 (by decide) (fun c6 => ?_) (fun c6 => ?_)
  · replace h := (if_pos c6).symm.trans h
    obtain rfl := rt1 h
    refine s_mask [false, false, false, false] ?_
    exact hk
  · replace h := (if_neg c6).symm.trans h
    refine s_iload_n hX dX1_findRivals_90 rfl ?_
    refine s_iload_n hX dX1_findRivals_91 rfl ?_
    obtain ⟨r1, hc, h⟩ := bn_some h
    refine s_callSI _ hX (cX9_has_ok (sl X)  hc) ms_RX1_72 (fun _ => rfl) (by decide) (Nat.le_of_ble_eq_true rfl) hcs dX1_findRivals_92 rfl ?_
    refine s_if_eq (tgt := 104) hX dX1_findRivals_95 (by decide) (fun c5 => ?_) (fun c5 => ?_)
    · replace h := (if_pos c5).symm.trans h
      obtain ⟨v2, ev2, h⟩ := bd_some h
      refine s_iinc v2 hX dX1_findRivals_104 rfl (by rw [ev2]; rfl) (by decide) ?_
      refine s_goto (tgt := 84) hX dX1_findRivals_107 (by decide) ?_
      refine s_mask [true, true, true, false] ?_
      exact hrec _ _ h hk
    · replace h := (if_neg c5).symm.trans h
      refine s_aload_n hX dX1_findRivals_98 rfl ?_
      refine s_iload_n hX dX1_findRivals_99 rfl ?_
      refine s_iload_n hX dX1_findRivals_100 rfl ?_
      obtain ⟨σ3, hc, h⟩ := bn_some h
      refine s_callVV _ hX (cX1_addRivals_ok (sl X)  hc) SH_87 mv_RX1_97_1 (fun _ => rfl) (by decide) (Nat.le_of_ble_eq_true rfl) hcs dX1_findRivals_101 rfl ?_
      obtain ⟨v4, ev4, h⟩ := bd_some h
      refine s_iinc v4 hX dX1_findRivals_104 rfl (by rw [ev4]; rfl) (by decide) ?_
      refine s_goto (tgt := 84) hX dX1_findRivals_107 (by decide) ?_
      refine s_mask [true, true, true, false] ?_
      exact hrec _ _ h hk
set_option maxHeartbeats 4000000 in
theorem cX1_findRivals_ok (l : Launch) {σ : Mm} {σ' : Mm}  (h : fX1_findRivals σ = some σ') : cV l yX1_findRivals cX1_findRivals 4 2 45 (fun ad => [.ref (ad 87)]) σ σ' := by
  refine c_enterV (fun ad => [some (.ref (ad 87)), none, none, none]) (by decide) (fun ad => ⟨by simp [Value.category], Nat.le_of_ble_eq_true rfl⟩) (fun ad => ⟨3, rfl⟩) ?_
  intro X _ hX hret
  have hcs : ((0 : Nat), (0 : Nat)).1 ≤ (sR X).cells ∧ ((0 : Nat), (0 : Nat)).2 ≤ (sR X).slots := ⟨Nat.zero_le _, Nat.zero_le _⟩
  generalize hcs0 : ((0 : Nat), (0 : Nat)) = cs at hcs hret ⊢
  unfold fX1_findRivals at h
  show sW X 4 cs σ 0 [some (.ref (sad X 87)), none, none, none] []
  refine s_aload_n hX dX1_findRivals_0 rfl ?_
  refine s_getR (r := 91) hX fo_RX1_21_1 SH_87 rfl dX1_findRivals_1 ?_
  refine s_iconst 0 hX dX1_findRivals_4 (by decide) ?_
  obtain ⟨σ1, hc, h⟩ := bn_some h
  refine s_callSV _ hX (cJ7_fill_53178_ok (sl X) SH_91 hc) ms_RX1_43 (fun _ => rfl) (by decide) (Nat.le_of_ble_eq_true rfl) hcs dX1_findRivals_5 rfl ?_
  refine s_iconst 0 hX dX1_findRivals_8 (by decide) ?_
  refine s_istore_n hX dX1_findRivals_9 (by decide) ?_
  obtain ⟨σ2, hc, h⟩ := bn_some h
  refine s_mask [true, true, false, false] ?_
  refine pX1_findRivals_10 hX hcs  _ _ _ hc ?_
  refine s_aload_n hX dX1_findRivals_76 rfl ?_
  refine s_iconst 0 hX dX1_findRivals_77 (by decide) ?_
  obtain ⟨r3, hc, h⟩ := bn_some h
  refine s_callVI _ hX (cX1_liveAtBeginning_ok (sl X)  hc) SH_87 mv_RX1_76_1 (fun _ => rfl) (by decide) (Nat.le_of_ble_eq_true rfl) hcs dX1_findRivals_78 rfl ?_
  refine s_istore_n hX dX1_findRivals_81 (by decide) ?_
  refine s_iconst 0 hX dX1_findRivals_82 (by decide) ?_
  refine s_istore_n hX dX1_findRivals_83 (by decide) ?_
  obtain ⟨σ4, hc, h⟩ := bn_some h
  refine s_mask [true, true, true, false] ?_
  refine pX1_findRivals_84 hX hcs _ _ _ _ hc ?_
  obtain rfl := rt1 h
  exact hret _ _ dX1_findRivals_110
def fX1_find (σ : Mm) : Option Mm :=
  (fX1_findLive σ).bind fun σ1 =>
  (fX1_countUses σ1).bind fun σ2 =>
  (fX1_findRivals σ2).bind fun σ3 =>
  some σ3
set_option maxHeartbeats 4000000 in
theorem cX1_find_ok (l : Launch) {σ : Mm} {σ' : Mm}  (h : fX1_find σ = some σ') : cV l yX1_find cX1_find 1 3 69 (fun ad => [.ref (ad 87)]) σ σ' := by
  refine c_enterV (fun ad => [some (.ref (ad 87))]) (by decide) (fun ad => ⟨by simp [Value.category], Nat.le_of_ble_eq_true rfl⟩) (fun ad => ⟨0, rfl⟩) ?_
  intro X _ hX hret
  have hcs : ((0 : Nat), (0 : Nat)).1 ≤ (sR X).cells ∧ ((0 : Nat), (0 : Nat)).2 ≤ (sR X).slots := ⟨Nat.zero_le _, Nat.zero_le _⟩
  generalize hcs0 : ((0 : Nat), (0 : Nat)) = cs at hcs hret ⊢
  unfold fX1_find at h
  show sW X 1 cs σ 0 [some (.ref (sad X 87))] []
  refine s_aload_n hX dX1_find_0 rfl ?_
  obtain ⟨σ1, hc, h⟩ := bn_some h
  refine s_callVV _ hX (cX1_findLive_ok (sl X)  hc) SH_87 mv_RX1_34_1 (fun _ => rfl) (by decide) (Nat.le_of_ble_eq_true rfl) hcs dX1_find_1 rfl ?_
  refine s_aload_n hX dX1_find_4 rfl ?_
  obtain ⟨σ2, hc, h⟩ := bn_some h
  refine s_callVV _ hX (cX1_countUses_ok (sl X)  hc) SH_87 mv_RX1_37_1 (fun _ => rfl) (by decide) (Nat.le_of_ble_eq_true rfl) hcs dX1_find_5 rfl ?_
  refine s_aload_n hX dX1_find_8 rfl ?_
  obtain ⟨σ3, hc, h⟩ := bn_some h
  refine s_callVV _ hX (cX1_findRivals_ok (sl X)  hc) SH_87 mv_RX1_40_1 (fun _ => rfl) (by decide) (Nat.le_of_ble_eq_true rfl) hcs dX1_find_9 rfl ?_
  obtain rfl := rt1 h
  exact hret _ _ dX1_find_12
def gX2_reachableWithout_37 (σ : Mm) (l2 : Int32) (l4 : Int32) (rec : Int32 × Int32 → Option (Int32)) (x3 : Int32) (x5 : Int32) : Option (Int32) :=
  if (σ 1 2) ≤ x5 then
  some x3
else
  (fX9_has σ x3 x5).bind fun r1 =>
  if r1 = 0 then
  bd (x5 + 1) fun v2 =>
  rec (x3, v2)
else
  gd x5 8 <|
  bd (4 + 5 * x5.toNatClampNeg) fun k4 =>
  (fX0_successors σ k4).bind fun r5 =>
  bd (x3 ||| (r5 &&& l2)) fun v6 =>
  bd (x5 + 1) fun v7 =>
  rec (v6, v7)
def qX2_reachableWithout_37 (σ : Mm) (l2 : Int32) (l4 : Int32) : Nat → Int32 × Int32 → Option (Int32) := lp (fun rec s => gX2_reachableWithout_37 σ l2 l4 rec s.1 s.2)
def gX2_reachableWithout_22 (σ : Mm) (l2 : Int32) (rec : Int32 × Int32 → Option (Int32)) (x3 : Int32) (x4 : Int32) : Option (Int32) :=
  if (σ 1 2) ≤ x4 then
  some x3
else
  (qX2_reachableWithout_37 σ l2 x4 FU (x3, 0)).bind fun v1 =>
  bd (x4 + 1) fun v2 =>
  rec (v1, v2)
def qX2_reachableWithout_22 (σ : Mm) (l2 : Int32) : Nat → Int32 × Int32 → Option (Int32) := lp (fun rec s => gX2_reachableWithout_22 σ l2 rec s.1 s.2)
def fX2_reachableWithout (σ : Mm) (l1 : Int32) : Option Int32 :=
  jn (fun (v1 : Int32) => bd (1 &&& v1) fun v3 =>
  (qX2_reachableWithout_22 σ v1 FU (v3, 0)).bind fun v4 =>
  some v4) fun j2 =>
  if l1 = (-1) then
  j2 (-1)
else
  j2 ((1 <<< (l1 &&& 31)) ^^^ (-1))
set_option maxHeartbeats 4000000 in
theorem pX2_reachableWithout_37 {X : sT} {cs : Nat × Nat} (hX : sX X cX2_reachableWithout RX2 6 1 21) (hcs : cs.1 ≤ (sR X).cells ∧ cs.2 ≤ (sR X).slots) (σ : Mm) (l2 : Int32) (l4 : Int32)  : ∀ (n : Nat) (s : Int32 × Int32) (r : Int32), qX2_reachableWithout_37 σ l2 l4 n s = some r → sW X 6 cs σ 82 [some (.ref (sad X 94)), none, some (.int l2), some (.int r), some (.int l4), none] [] → sW X 6 cs σ 37 [some (.ref (sad X 94)), none, some (.int l2), some (.int s.1), some (.int l4), some (.int s.2)] [] := by
  refine lp_ind (P := fun (s : Int32 × Int32) (r : Int32) => sW X 6 cs σ 82 [some (.ref (sad X 94)), none, some (.int l2), some (.int r), some (.int l4), none] [] → sW X 6 cs σ 37 [some (.ref (sad X 94)), none, some (.int l2), some (.int s.1), some (.int l4), some (.int s.2)] []) ?_
  intro rec hrec s r h0 hk
  obtain ⟨x3, x5⟩ := s
  have h : gX2_reachableWithout_37 σ l2 l4 rec x3 x5 = some r := h0
  unfold gX2_reachableWithout_37 at h
  show sW X 6 cs σ 37 [some (.ref (sad X 94)), none, some (.int l2), some (.int x3), some (.int l4), some (.int x5)] []
  refine s_iload hX dX2_reachableWithout_37 rfl ?_
  refine s_aload_n hX dX2_reachableWithout_39 rfl ?_
  refine s_getR (r := 1) hX fo_RX2_18_2 SH_94 rfl dX2_reachableWithout_40 ?_
  refine s_getI hX fo_RX2_30_6 SH_1 rfl dX2_reachableWithout_43 ?_
  refine s_ic_ge (tgt := 82) hX dX2_reachableWithout_46 (by decide) (fun c9 => ?_) (fun c9 => ?_)
  · replace h := (if_pos c9).symm.trans h
    obtain rfl := rt1 h
    refine s_mask [true, false, true, true, true, false] ?_
    exact hk
  · replace h := (if_neg c9).symm.trans h
    refine s_iload_n hX dX2_reachableWithout_49 rfl ?_
    refine s_iload hX dX2_reachableWithout_50 rfl ?_
    obtain ⟨r1, hc, h⟩ := bn_some h
    refine s_callSI _ hX (cX9_has_ok (sl X)  hc) ms_RX2_42 (fun _ => rfl) (by decide) (Nat.le_of_ble_eq_true rfl) hcs dX2_reachableWithout_52 rfl ?_
    refine s_if_eq (tgt := 76) hX dX2_reachableWithout_55 (by decide) (fun c8 => ?_) (fun c8 => ?_)
    · replace h := (if_pos c8).symm.trans h
      obtain ⟨v2, ev2, h⟩ := bd_some h
      refine s_iinc v2 hX dX2_reachableWithout_76 rfl (by rw [ev2]; rfl) (by decide) ?_
      refine s_goto (tgt := 37) hX dX2_reachableWithout_79 (by decide) ?_
      refine s_mask [true, false, true, true, true, true] ?_
      exact hrec _ _ h hk
    · replace h := (if_neg c8).symm.trans h
      refine s_iload_n hX dX2_reachableWithout_58 rfl ?_
      refine s_aload_n hX dX2_reachableWithout_59 rfl ?_
      refine s_getR (r := 1) hX fo_RX2_18_2 SH_94 rfl dX2_reachableWithout_60 ?_
      refine s_getR (r := 2) hX fo_RX2_46_6 SH_1 rfl dX2_reachableWithout_63 ?_
      refine s_iload hX dX2_reachableWithout_66 rfl ?_
      obtain ⟨c3, h⟩ := gd_some h
      obtain ⟨k4, ek4, h⟩ := bd_some h
      have Bk4 : isB k4 := Or.inl ⟨_, vp_lt c3, ek4⟩
      refine s_aaldP hX c3 dX2_reachableWithout_68 ?_
      refine s_topr k4 ek4 ?_
      obtain ⟨r5, hc, h⟩ := bn_some h
      refine s_callVI _ hX (cX0_successors_ok (sl X) Bk4 hc) (isB_0 Bk4) mv_RX2_50_0 (fun _ => rfl) (by decide) (Nat.le_of_ble_eq_true rfl) hcs dX2_reachableWithout_69 rfl ?_
      refine s_iload_n hX dX2_reachableWithout_72 rfl ?_
      refine s_iand hX dX2_reachableWithout_73 ?_
      refine s_ior hX dX2_reachableWithout_74 ?_
      obtain ⟨v6, ev6, h⟩ := bd_some h
      refine s_topi v6 ev6 ?_
      refine s_istore_n hX dX2_reachableWithout_75 (by decide) ?_
      obtain ⟨v7, ev7, h⟩ := bd_some h
      refine s_iinc v7 hX dX2_reachableWithout_76 rfl (by rw [ev7]; rfl) (by decide) ?_
      refine s_goto (tgt := 37) hX dX2_reachableWithout_79 (by decide) ?_
      refine s_mask [true, false, true, true, true, true] ?_
      exact hrec _ _ h hk
set_option maxHeartbeats 4000000 in
theorem pX2_reachableWithout_22 {X : sT} {cs : Nat × Nat} (hX : sX X cX2_reachableWithout RX2 6 1 21) (hcs : cs.1 ≤ (sR X).cells ∧ cs.2 ≤ (sR X).slots) (σ : Mm) (l2 : Int32)  : ∀ (n : Nat) (s : Int32 × Int32) (r : Int32), qX2_reachableWithout_22 σ l2 n s = some r → sW X 6 cs σ 88 [none, none, none, some (.int r), none, none] [] → sW X 6 cs σ 22 [some (.ref (sad X 94)), none, some (.int l2), some (.int s.1), some (.int s.2), none] [] := by
  refine lp_ind (P := fun (s : Int32 × Int32) (r : Int32) => sW X 6 cs σ 88 [none, none, none, some (.int r), none, none] [] → sW X 6 cs σ 22 [some (.ref (sad X 94)), none, some (.int l2), some (.int s.1), some (.int s.2), none] []) ?_
  intro rec hrec s r h0 hk
  obtain ⟨x3, x4⟩ := s
  have h : gX2_reachableWithout_22 σ l2 rec x3 x4 = some r := h0
  unfold gX2_reachableWithout_22 at h
  show sW X 6 cs σ 22 [some (.ref (sad X 94)), none, some (.int l2), some (.int x3), some (.int x4), none] []
  refine s_iload hX dX2_reachableWithout_22 rfl ?_
  refine s_aload_n hX dX2_reachableWithout_24 rfl ?_
  refine s_getR (r := 1) hX fo_RX2_18_2 SH_94 rfl dX2_reachableWithout_25 ?_
  refine s_getI hX fo_RX2_30_6 SH_1 rfl dX2_reachableWithout_28 ?_
  refine s_ic_ge (tgt := 88) hX dX2_reachableWithout_31 (by decide) (fun c3 => ?_) (fun c3 => ?_)
  · replace h := (if_pos c3).symm.trans h
    obtain rfl := rt1 h
    refine s_mask [false, false, false, true, false, false] ?_
    exact hk
  · replace h := (if_neg c3).symm.trans h
    refine s_iconst 0 hX dX2_reachableWithout_34 (by decide) ?_
    refine s_istore hX dX2_reachableWithout_35 (by decide) ?_
    obtain ⟨v1, hc, h⟩ := bn_some h
    refine s_mask [true, false, true, true, true, true] ?_
    refine pX2_reachableWithout_37 hX hcs _ _ _ _ _ _ hc ?_
    obtain ⟨v2, ev2, h⟩ := bd_some h
    refine s_iinc v2 hX dX2_reachableWithout_82 rfl (by rw [ev2]; rfl) (by decide) ?_
    refine s_goto (tgt := 22) hX dX2_reachableWithout_85 (by decide) ?_
    refine s_mask [true, false, true, true, true, false] ?_
    exact hrec _ _ h hk
set_option maxHeartbeats 4000000 in
theorem cX2_reachableWithout_ok (l : Launch) {σ : Mm} {l1 : Int32} {r : Int32}  (h : fX2_reachableWithout σ l1 = some r) : cI l yX2_reachableWithout cX2_reachableWithout 6 .int 1 21 (fun ad => [.ref (ad 94), .int l1]) σ r σ := by
  refine c_enterI (fun ad => [some (.ref (ad 94)), some (.int l1), none, none, none, none]) (by decide) (fun ad => ⟨by simp [Value.category], Nat.le_of_ble_eq_true rfl⟩) (fun ad => ⟨4, rfl⟩) ?_
  intro X _ hX hret
  have hcs : ((0 : Nat), (0 : Nat)).1 ≤ (sR X).cells ∧ ((0 : Nat), (0 : Nat)).2 ≤ (sR X).slots := ⟨Nat.zero_le _, Nat.zero_le _⟩
  generalize hcs0 : ((0 : Nat), (0 : Nat)) = cs at hcs hret ⊢
  unfold fX2_reachableWithout at h
  show sW X 6 cs σ 0 [some (.ref (sad X 94)), some (.int l1), none, none, none, none] []
  refine s_iload_n hX dX2_reachableWithout_0 rfl ?_
  refine s_iconst (-1) hX dX2_reachableWithout_1 (by decide) ?_
  refine jn_use (fun j => ∀ (v1 : Int32), j v1 = some r → sW X 6 cs σ 14 [some (.ref (sad X 94)), none, none, none, none, none] [.int v1]) h ?_ ?_
  · intro v1 h
    refine s_istore_n hX dX2_reachableWithout_14 (by decide) ?_
    refine s_iconst 1 hX dX2_reachableWithout_15 (by decide) ?_
    refine s_iload_n hX dX2_reachableWithout_16 rfl ?_
    refine s_iand hX dX2_reachableWithout_17 ?_
    obtain ⟨v3, ev3, h⟩ := bd_some h
    refine s_topi v3 ev3 ?_
    refine s_istore_n hX dX2_reachableWithout_18 (by decide) ?_
    refine s_iconst 0 hX dX2_reachableWithout_19 (by decide) ?_
    refine s_istore hX dX2_reachableWithout_20 (by decide) ?_
    obtain ⟨v4, hc, h⟩ := bn_some h
    refine s_mask [true, false, true, true, true, false] ?_
    refine pX2_reachableWithout_22 hX hcs _ _ _ _ _ hc ?_
    refine s_iload_n hX dX2_reachableWithout_88 rfl ?_
    obtain rfl := rt1 h
    exact hret _ _ (nzi _) dX2_reachableWithout_89
  · intro j2 hj2 h
    refine s_ic_ne (tgt := 9) hX dX2_reachableWithout_2 (by decide) (fun c5 => ?_) (fun c5 => ?_)
    · replace h := (if_neg c5).symm.trans h
      refine s_iconst 1 hX dX2_reachableWithout_9 (by decide) ?_
      refine s_iload_n hX dX2_reachableWithout_10 rfl ?_
      refine s_ishl hX dX2_reachableWithout_11 ?_
      refine s_iconst (-1) hX dX2_reachableWithout_12 (by decide) ?_
      refine s_ixor hX dX2_reachableWithout_13 ?_
      refine s_mask [true, false, false, false, false, false] ?_
      exact hj2 _ h
    · replace h := (if_pos c5).symm.trans h
      refine s_iconst (-1) hX dX2_reachableWithout_5 (by decide) ?_
      refine s_goto (tgt := 14) hX dX2_reachableWithout_6 (by decide) ?_
      refine s_mask [true, false, false, false, false, false] ?_
      exact hj2 _ h
def gX2_predecessors_4 (σ : Mm) (l1 : Int32) (rec : Int32 × Int32 → Option (Int32)) (x2 : Int32) (x3 : Int32) : Option (Int32) :=
  if (σ 1 2) ≤ x3 then
  some x2
else
  gd x3 8 <|
  bd (4 + 5 * x3.toNatClampNeg) fun k2 =>
  (fX0_successors σ k2).bind fun r3 =>
  if (r3 &&& l1) = 0 then
  bd (x3 + 1) fun v4 =>
  rec (x2, v4)
else
  bd (x2 ||| (1 <<< (x3 &&& 31))) fun v5 =>
  bd (x3 + 1) fun v6 =>
  rec (v5, v6)
def qX2_predecessors_4 (σ : Mm) (l1 : Int32) : Nat → Int32 × Int32 → Option (Int32) := lp (fun rec s => gX2_predecessors_4 σ l1 rec s.1 s.2)
def fX2_predecessors (σ : Mm) (l1 : Int32) : Option Int32 :=
  (qX2_predecessors_4 σ l1 FU (0, 0)).bind fun v1 =>
  some v1
set_option maxHeartbeats 4000000 in
theorem pX2_predecessors_4 {X : sT} {cs : Nat × Nat} (hX : sX X cX2_predecessors RX2 4 1 20) (hcs : cs.1 ≤ (sR X).cells ∧ cs.2 ≤ (sR X).slots) (σ : Mm) (l1 : Int32)  : ∀ (n : Nat) (s : Int32 × Int32) (r : Int32), qX2_predecessors_4 σ l1 n s = some r → sW X 4 cs σ 44 [none, none, some (.int r), none] [] → sW X 4 cs σ 4 [some (.ref (sad X 94)), some (.int l1), some (.int s.1), some (.int s.2)] [] := by
  refine lp_ind (P := fun (s : Int32 × Int32) (r : Int32) => sW X 4 cs σ 44 [none, none, some (.int r), none] [] → sW X 4 cs σ 4 [some (.ref (sad X 94)), some (.int l1), some (.int s.1), some (.int s.2)] []) ?_
  intro rec hrec s r h0 hk
  obtain ⟨x2, x3⟩ := s
  have h : gX2_predecessors_4 σ l1 rec x2 x3 = some r := h0
  unfold gX2_predecessors_4 at h
  show sW X 4 cs σ 4 [some (.ref (sad X 94)), some (.int l1), some (.int x2), some (.int x3)] []
  refine s_iload_n hX dX2_predecessors_4 rfl ?_
  refine s_aload_n hX dX2_predecessors_5 rfl ?_
  refine s_getR (r := 1) hX fo_RX2_18_2 SH_94 rfl dX2_predecessors_6 ?_
  refine s_getI hX fo_RX2_30_6 SH_1 rfl dX2_predecessors_9 ?_
  refine s_ic_ge (tgt := 44) hX dX2_predecessors_12 (by decide) (fun c8 => ?_) (fun c8 => ?_)
  · replace h := (if_pos c8).symm.trans h
    obtain rfl := rt1 h
    refine s_mask [false, false, true, false] ?_
    exact hk
  · replace h := (if_neg c8).symm.trans h
    refine s_aload_n hX dX2_predecessors_15 rfl ?_
    refine s_getR (r := 1) hX fo_RX2_18_2 SH_94 rfl dX2_predecessors_16 ?_
    refine s_getR (r := 2) hX fo_RX2_46_6 SH_1 rfl dX2_predecessors_19 ?_
    refine s_iload_n hX dX2_predecessors_22 rfl ?_
    obtain ⟨c1, h⟩ := gd_some h
    obtain ⟨k2, ek2, h⟩ := bd_some h
    have Bk2 : isB k2 := Or.inl ⟨_, vp_lt c1, ek2⟩
    refine s_aaldP hX c1 dX2_predecessors_23 ?_
    refine s_topr k2 ek2 ?_
    obtain ⟨r3, hc, h⟩ := bn_some h
    refine s_callVI _ hX (cX0_successors_ok (sl X) Bk2 hc) (isB_0 Bk2) mv_RX2_50_0 (fun _ => rfl) (by decide) (Nat.le_of_ble_eq_true rfl) hcs dX2_predecessors_24 rfl ?_
    refine s_iload_n hX dX2_predecessors_27 rfl ?_
    refine s_iand hX dX2_predecessors_28 ?_
    refine s_if_eq (tgt := 38) hX dX2_predecessors_29 (by decide) (fun c7 => ?_) (fun c7 => ?_)
    · replace h := (if_pos c7).symm.trans h
      obtain ⟨v4, ev4, h⟩ := bd_some h
      refine s_iinc v4 hX dX2_predecessors_38 rfl (by rw [ev4]; rfl) (by decide) ?_
      refine s_goto (tgt := 4) hX dX2_predecessors_41 (by decide) ?_
      refine s_mask [true, true, true, true] ?_
      exact hrec _ _ h hk
    · replace h := (if_neg c7).symm.trans h
      refine s_iload_n hX dX2_predecessors_32 rfl ?_
      refine s_iconst 1 hX dX2_predecessors_33 (by decide) ?_
      refine s_iload_n hX dX2_predecessors_34 rfl ?_
      refine s_ishl hX dX2_predecessors_35 ?_
      refine s_ior hX dX2_predecessors_36 ?_
      obtain ⟨v5, ev5, h⟩ := bd_some h
      refine s_topi v5 ev5 ?_
      refine s_istore_n hX dX2_predecessors_37 (by decide) ?_
      obtain ⟨v6, ev6, h⟩ := bd_some h
      refine s_iinc v6 hX dX2_predecessors_38 rfl (by rw [ev6]; rfl) (by decide) ?_
      refine s_goto (tgt := 4) hX dX2_predecessors_41 (by decide) ?_
      refine s_mask [true, true, true, true] ?_
      exact hrec _ _ h hk
set_option maxHeartbeats 4000000 in
theorem cX2_predecessors_ok (l : Launch) {σ : Mm} {l1 : Int32} {r : Int32}  (h : fX2_predecessors σ l1 = some r) : cI l yX2_predecessors cX2_predecessors 4 .int 1 20 (fun ad => [.ref (ad 94), .int l1]) σ r σ := by
  refine c_enterI (fun ad => [some (.ref (ad 94)), some (.int l1), none, none]) (by decide) (fun ad => ⟨by simp [Value.category], Nat.le_of_ble_eq_true rfl⟩) (fun ad => ⟨2, rfl⟩) ?_
  intro X _ hX hret
  have hcs : ((0 : Nat), (0 : Nat)).1 ≤ (sR X).cells ∧ ((0 : Nat), (0 : Nat)).2 ≤ (sR X).slots := ⟨Nat.zero_le _, Nat.zero_le _⟩
  generalize hcs0 : ((0 : Nat), (0 : Nat)) = cs at hcs hret ⊢
  unfold fX2_predecessors at h
  show sW X 4 cs σ 0 [some (.ref (sad X 94)), some (.int l1), none, none] []
  refine s_iconst 0 hX dX2_predecessors_0 (by decide) ?_
  refine s_istore_n hX dX2_predecessors_1 (by decide) ?_
  refine s_iconst 0 hX dX2_predecessors_2 (by decide) ?_
  refine s_istore_n hX dX2_predecessors_3 (by decide) ?_
  obtain ⟨v1, hc, h⟩ := bn_some h
  refine s_mask [true, true, true, true] ?_
  refine pX2_predecessors_4 hX hcs _ _ _ _ _ hc ?_
  refine s_iload_n hX dX2_predecessors_44 rfl ?_
  obtain rfl := rt1 h
  exact hret _ _ (nzi _) dX2_predecessors_45
def gX2_loopBlocks_12 (σ : Mm) (l1 : Int32) (l3 : Int32) (rec : Int32 × Int32 → Option (Int32)) (x4 : Int32) (x5 : Int32) : Option (Int32) :=
  if (σ 1 2) ≤ x5 then
  some x4
else
  (fX2_predecessors σ x4).bind fun r1 =>
  bd (x4 ||| ((r1 &&& l3) &&& ((1 <<< (l1 &&& 31)) ^^^ (-1)))) fun v2 =>
  bd (x5 + 1) fun v3 =>
  rec (v2, v3)
def qX2_loopBlocks_12 (σ : Mm) (l1 : Int32) (l3 : Int32) : Nat → Int32 × Int32 → Option (Int32) := lp (fun rec s => gX2_loopBlocks_12 σ l1 l3 rec s.1 s.2)
def fX2_loopBlocks (σ : Mm) (l1 : Int32) (l2 : Int32) (l3 : Int32) : Option Int32 :=
  bd (l2 &&& ((1 <<< (l1 &&& 31)) ^^^ (-1))) fun v1 =>
  (qX2_loopBlocks_12 σ l1 l3 FU (v1, 0)).bind fun v2 =>
  some (v2 ||| (1 <<< (l1 &&& 31)))
set_option maxHeartbeats 4000000 in
theorem pX2_loopBlocks_12 {X : sT} {cs : Nat × Nat} (hX : sX X cX2_loopBlocks RX2 6 2 43) (hcs : cs.1 ≤ (sR X).cells ∧ cs.2 ≤ (sR X).slots) (σ : Mm) (l1 : Int32) (l3 : Int32)  : ∀ (n : Nat) (s : Int32 × Int32) (r : Int32), qX2_loopBlocks_12 σ l1 l3 n s = some r → sW X 6 cs σ 49 [none, some (.int l1), none, none, some (.int r), none] [] → sW X 6 cs σ 12 [some (.ref (sad X 94)), some (.int l1), none, some (.int l3), some (.int s.1), some (.int s.2)] [] := by
  refine lp_ind (P := fun (s : Int32 × Int32) (r : Int32) => sW X 6 cs σ 49 [none, some (.int l1), none, none, some (.int r), none] [] → sW X 6 cs σ 12 [some (.ref (sad X 94)), some (.int l1), none, some (.int l3), some (.int s.1), some (.int s.2)] []) ?_
  intro rec hrec s r h0 hk
  obtain ⟨x4, x5⟩ := s
  have h : gX2_loopBlocks_12 σ l1 l3 rec x4 x5 = some r := h0
  unfold gX2_loopBlocks_12 at h
  show sW X 6 cs σ 12 [some (.ref (sad X 94)), some (.int l1), none, some (.int l3), some (.int x4), some (.int x5)] []
  refine s_iload hX dX2_loopBlocks_12 rfl ?_
  refine s_aload_n hX dX2_loopBlocks_14 rfl ?_
  refine s_getR (r := 1) hX fo_RX2_18_2 SH_94 rfl dX2_loopBlocks_15 ?_
  refine s_getI hX fo_RX2_30_6 SH_1 rfl dX2_loopBlocks_18 ?_
  refine s_ic_ge (tgt := 49) hX dX2_loopBlocks_21 (by decide) (fun c4 => ?_) (fun c4 => ?_)
  · replace h := (if_pos c4).symm.trans h
    obtain rfl := rt1 h
    refine s_mask [false, true, false, false, true, false] ?_
    exact hk
  · replace h := (if_neg c4).symm.trans h
    refine s_iload hX dX2_loopBlocks_24 rfl ?_
    refine s_aload_n hX dX2_loopBlocks_26 rfl ?_
    refine s_iload hX dX2_loopBlocks_27 rfl ?_
    obtain ⟨r1, hc, h⟩ := bn_some h
    refine s_callVI _ hX (cX2_predecessors_ok (sl X)  hc) SH_94 mv_RX2_35_2 (fun _ => rfl) (by decide) (Nat.le_of_ble_eq_true rfl) hcs dX2_loopBlocks_29 rfl ?_
    refine s_iload_n hX dX2_loopBlocks_32 rfl ?_
    refine s_iand hX dX2_loopBlocks_33 ?_
    refine s_iconst 1 hX dX2_loopBlocks_34 (by decide) ?_
    refine s_iload_n hX dX2_loopBlocks_35 rfl ?_
    refine s_ishl hX dX2_loopBlocks_36 ?_
    refine s_iconst (-1) hX dX2_loopBlocks_37 (by decide) ?_
    refine s_ixor hX dX2_loopBlocks_38 ?_
    refine s_iand hX dX2_loopBlocks_39 ?_
    refine s_ior hX dX2_loopBlocks_40 ?_
    obtain ⟨v2, ev2, h⟩ := bd_some h
    refine s_topi v2 ev2 ?_
    refine s_istore hX dX2_loopBlocks_41 (by decide) ?_
    obtain ⟨v3, ev3, h⟩ := bd_some h
    refine s_iinc v3 hX dX2_loopBlocks_43 rfl (by rw [ev3]; rfl) (by decide) ?_
    refine s_goto (tgt := 12) hX dX2_loopBlocks_46 (by decide) ?_
    refine s_mask [true, true, false, true, true, true] ?_
    exact hrec _ _ h hk
set_option maxHeartbeats 4000000 in
theorem cX2_loopBlocks_ok (l : Launch) {σ : Mm} {l1 : Int32} {l2 : Int32} {l3 : Int32} {r : Int32}  (h : fX2_loopBlocks σ l1 l2 l3 = some r) : cI l yX2_loopBlocks cX2_loopBlocks 6 .int 2 43 (fun ad => [.ref (ad 94), .int l1, .int l2, .int l3]) σ r σ := by
  refine c_enterI (fun ad => [some (.ref (ad 94)), some (.int l1), some (.int l2), some (.int l3), none, none]) (by decide) (fun ad => ⟨by simp [Value.category], Nat.le_of_ble_eq_true rfl⟩) (fun ad => ⟨2, rfl⟩) ?_
  intro X _ hX hret
  have hcs : ((0 : Nat), (0 : Nat)).1 ≤ (sR X).cells ∧ ((0 : Nat), (0 : Nat)).2 ≤ (sR X).slots := ⟨Nat.zero_le _, Nat.zero_le _⟩
  generalize hcs0 : ((0 : Nat), (0 : Nat)) = cs at hcs hret ⊢
  unfold fX2_loopBlocks at h
  show sW X 6 cs σ 0 [some (.ref (sad X 94)), some (.int l1), some (.int l2), some (.int l3), none, none] []
  refine s_iload_n hX dX2_loopBlocks_0 rfl ?_
  refine s_iconst 1 hX dX2_loopBlocks_1 (by decide) ?_
  refine s_iload_n hX dX2_loopBlocks_2 rfl ?_
  refine s_ishl hX dX2_loopBlocks_3 ?_
  refine s_iconst (-1) hX dX2_loopBlocks_4 (by decide) ?_
  refine s_ixor hX dX2_loopBlocks_5 ?_
  refine s_iand hX dX2_loopBlocks_6 ?_
  obtain ⟨v1, ev1, h⟩ := bd_some h
  refine s_topi v1 ev1 ?_
  refine s_istore hX dX2_loopBlocks_7 (by decide) ?_
  refine s_iconst 0 hX dX2_loopBlocks_9 (by decide) ?_
  refine s_istore hX dX2_loopBlocks_10 (by decide) ?_
  obtain ⟨v2, hc, h⟩ := bn_some h
  refine s_mask [true, true, false, true, true, true] ?_
  refine pX2_loopBlocks_12 hX hcs _ _ _ _ _ _ hc ?_
  refine s_iload hX dX2_loopBlocks_49 rfl ?_
  refine s_iconst 1 hX dX2_loopBlocks_51 (by decide) ?_
  refine s_iload_n hX dX2_loopBlocks_52 rfl ?_
  refine s_ishl hX dX2_loopBlocks_53 ?_
  refine s_ior hX dX2_loopBlocks_54 ?_
  obtain rfl := rt1 h
  exact hret _ _ (nzi _) dX2_loopBlocks_55
def gX2_find_13 (l1 : Int32) (rec : Mm × Int32 → Option (Mm)) (σ : Mm) (x2 : Int32) : Option (Mm) :=
  if (σ 1 2) ≤ x2 then
  some σ
else
  (fX2_reachableWithout σ x2).bind fun r1 =>
  bd (l1 &&& (r1 ^^^ (-1))) fun v2 =>
  (fX2_predecessors σ (1 <<< (x2 &&& 31))).bind fun r3 =>
  bd (v2 &&& r3) fun v4 =>
  if v4 = 0 then
  bd (x2 + 1) fun v5 =>
  rec (σ, v5)
else
  gd (σ 94 3) 8 <|
  bd (upm σ 95 (upd (σ 95) (σ 94 3).toNatClampNeg x2)) fun σ7 =>
  (fX2_loopBlocks σ7 x2 v4 l1).bind fun r8 =>
  gd (σ7 94 3) 8 <|
  bd (upm σ7 96 (upd (σ7 96) (σ7 94 3).toNatClampNeg r8)) fun σ10 =>
  bd (upm σ10 94 (upd (σ10 94) 3 ((σ10 94 3) + 1))) fun σ11 =>
  bd (x2 + 1) fun v12 =>
  rec (σ11, v12)
def qX2_find_13 (l1 : Int32) : Nat → Mm × Int32 → Option (Mm) := lp (fun rec s => gX2_find_13 l1 rec s.1 s.2)
def fX2_find (σ : Mm) : Option Mm :=
  bd (upm σ 94 (upd (σ 94) 3 0)) fun σ1 =>
  (fX2_reachableWithout σ1 (-1)).bind fun r2 =>
  (qX2_find_13 r2 FU (σ1, 0)).bind fun σ3 =>
  some σ3
set_option maxHeartbeats 4000000 in
theorem pX2_find_13 {X : sT} {cs : Nat × Nat} (hX : sX X cX2_find RX2 5 3 68) (hcs : cs.1 ≤ (sR X).cells ∧ cs.2 ≤ (sR X).slots) (l1 : Int32)  : ∀ (n : Nat) (s : Mm × Int32) (r : Mm), qX2_find_13 l1 n s = some r → sW X 5 cs r 93 [none, none, none, none, none] [] → sW X 5 cs s.1 13 [some (.ref (sad X 94)), some (.int l1), some (.int s.2), none, none] [] := by
  refine lp_ind (P := fun (s : Mm × Int32) (r : Mm) => sW X 5 cs r 93 [none, none, none, none, none] [] → sW X 5 cs s.1 13 [some (.ref (sad X 94)), some (.int l1), some (.int s.2), none, none] []) ?_
  intro rec hrec s r h0 hk
  obtain ⟨σ, x2⟩ := s
  have h : gX2_find_13 l1 rec σ x2 = some r := h0
  unfold gX2_find_13 at h
  show sW X 5 cs σ 13 [some (.ref (sad X 94)), some (.int l1), some (.int x2), none, none] []
  refine s_iload_n hX dX2_find_13 rfl ?_
  refine s_aload_n hX dX2_find_14 rfl ?_
  refine s_getR (r := 1) hX fo_RX2_18_2 SH_94 rfl dX2_find_15 ?_
  refine s_getI hX fo_RX2_30_6 SH_1 rfl dX2_find_18 ?_
  refine s_ic_ge (tgt := 93) hX dX2_find_21 (by decide) (fun c14 => ?_) (fun c14 => ?_)
  · replace h := (if_pos c14).symm.trans h
    obtain rfl := rt1 h
    refine s_mask [false, false, false, false, false] ?_
    exact hk
  · replace h := (if_neg c14).symm.trans h
    refine s_iload_n hX dX2_find_24 rfl ?_
    refine s_aload_n hX dX2_find_25 rfl ?_
    refine s_iload_n hX dX2_find_26 rfl ?_
    obtain ⟨r1, hc, h⟩ := bn_some h
    refine s_callVI _ hX (cX2_reachableWithout_ok (sl X)  hc) SH_94 mv_RX2_26_2 (fun _ => rfl) (by decide) (Nat.le_of_ble_eq_true rfl) hcs dX2_find_27 rfl ?_
    refine s_iconst (-1) hX dX2_find_30 (by decide) ?_
    refine s_ixor hX dX2_find_31 ?_
    refine s_iand hX dX2_find_32 ?_
    obtain ⟨v2, ev2, h⟩ := bd_some h
    refine s_topi v2 ev2 ?_
    refine s_istore_n hX dX2_find_33 (by decide) ?_
    refine s_iload_n hX dX2_find_34 rfl ?_
    refine s_aload_n hX dX2_find_35 rfl ?_
    refine s_iconst 1 hX dX2_find_36 (by decide) ?_
    refine s_iload_n hX dX2_find_37 rfl ?_
    refine s_ishl hX dX2_find_38 ?_
    obtain ⟨r3, hc, h⟩ := bn_some h
    refine s_callVI _ hX (cX2_predecessors_ok (sl X)  hc) SH_94 mv_RX2_35_2 (fun _ => rfl) (by decide) (Nat.le_of_ble_eq_true rfl) hcs dX2_find_39 rfl ?_
    refine s_iand hX dX2_find_42 ?_
    obtain ⟨v4, ev4, h⟩ := bd_some h
    refine s_topi v4 ev4 ?_
    refine s_istore hX dX2_find_43 (by decide) ?_
    refine s_iload hX dX2_find_45 rfl ?_
    refine s_if_eq (tgt := 87) hX dX2_find_47 (by decide) (fun c13 => ?_) (fun c13 => ?_)
    · replace h := (if_pos c13).symm.trans h
      obtain ⟨v5, ev5, h⟩ := bd_some h
      refine s_iinc v5 hX dX2_find_87 rfl (by rw [ev5]; rfl) (by decide) ?_
      refine s_goto (tgt := 13) hX dX2_find_90 (by decide) ?_
      refine s_mask [true, true, true, false, false] ?_
      exact hrec _ _ h hk
    · replace h := (if_neg c13).symm.trans h
      refine s_aload_n hX dX2_find_50 rfl ?_
      refine s_getR (r := 95) hX fo_RX2_9_2 SH_94 rfl dX2_find_51 ?_
      refine s_aload_n hX dX2_find_54 rfl ?_
      refine s_getI hX fo_RX2_22_2 SH_94 rfl dX2_find_55 ?_
      refine s_iload_n hX dX2_find_58 rfl ?_
      obtain ⟨c6, h⟩ := gd_some h
      obtain ⟨σ7, eσ7, h⟩ := bd_some h
      refine s_iast hX SH_95 c6 dX2_find_59 ?_
      refine s_mem σ7 eσ7 ?_
      refine s_aload_n hX dX2_find_60 rfl ?_
      refine s_getR (r := 96) hX fo_RX2_15_2 SH_94 rfl dX2_find_61 ?_
      refine s_aload_n hX dX2_find_64 rfl ?_
      refine s_getI hX fo_RX2_22_2 SH_94 rfl dX2_find_65 ?_
      refine s_aload_n hX dX2_find_68 rfl ?_
      refine s_iload_n hX dX2_find_69 rfl ?_
      refine s_iload hX dX2_find_70 rfl ?_
      refine s_iload_n hX dX2_find_72 rfl ?_
      obtain ⟨r8, hc, h⟩ := bn_some h
      refine s_callVI _ hX (cX2_loopBlocks_ok (sl X)  hc) SH_94 mv_RX2_38_2 (fun _ => rfl) (by decide) (Nat.le_of_ble_eq_true rfl) hcs dX2_find_73 rfl ?_
      obtain ⟨c9, h⟩ := gd_some h
      obtain ⟨σ10, eσ10, h⟩ := bd_some h
      refine s_iast hX SH_96 c9 dX2_find_76 ?_
      refine s_mem σ10 eσ10 ?_
      refine s_aload_n hX dX2_find_77 rfl ?_
      refine s_dup hX dX2_find_78 rfl ?_
      refine s_getI hX fo_RX2_22_2 SH_94 rfl dX2_find_79 ?_
      refine s_iconst 1 hX dX2_find_82 (by decide) ?_
      refine s_iadd hX dX2_find_83 ?_
      obtain ⟨σ11, eσ11, h⟩ := bd_some h
      refine s_putI hX fo_RX2_22_2 SH_94 rfl dX2_find_84 ?_
      refine s_mem σ11 eσ11 ?_
      obtain ⟨v12, ev12, h⟩ := bd_some h
      refine s_iinc v12 hX dX2_find_87 rfl (by rw [ev12]; rfl) (by decide) ?_
      refine s_goto (tgt := 13) hX dX2_find_90 (by decide) ?_
      refine s_mask [true, true, true, false, false] ?_
      exact hrec _ _ h hk
set_option maxHeartbeats 4000000 in
theorem cX2_find_ok (l : Launch) {σ : Mm} {σ' : Mm}  (h : fX2_find σ = some σ') : cV l yX2_find cX2_find 5 3 68 (fun ad => [.ref (ad 94)]) σ σ' := by
  refine c_enterV (fun ad => [some (.ref (ad 94)), none, none, none, none]) (by decide) (fun ad => ⟨by simp [Value.category], Nat.le_of_ble_eq_true rfl⟩) (fun ad => ⟨4, rfl⟩) ?_
  intro X _ hX hret
  have hcs : ((0 : Nat), (0 : Nat)).1 ≤ (sR X).cells ∧ ((0 : Nat), (0 : Nat)).2 ≤ (sR X).slots := ⟨Nat.zero_le _, Nat.zero_le _⟩
  generalize hcs0 : ((0 : Nat), (0 : Nat)) = cs at hcs hret ⊢
  unfold fX2_find at h
  show sW X 5 cs σ 0 [some (.ref (sad X 94)), none, none, none, none] []
  refine s_aload_n hX dX2_find_0 rfl ?_
  refine s_iconst 0 hX dX2_find_1 (by decide) ?_
  obtain ⟨σ1, eσ1, h⟩ := bd_some h
  refine s_putI hX fo_RX2_22_2 SH_94 rfl dX2_find_2 ?_
  refine s_mem σ1 eσ1 ?_
  refine s_aload_n hX dX2_find_5 rfl ?_
  refine s_iconst (-1) hX dX2_find_6 (by decide) ?_
  obtain ⟨r2, hc, h⟩ := bn_some h
  refine s_callVI _ hX (cX2_reachableWithout_ok (sl X)  hc) SH_94 mv_RX2_26_2 (fun _ => rfl) (by decide) (Nat.le_of_ble_eq_true rfl) hcs dX2_find_7 rfl ?_
  refine s_istore_n hX dX2_find_10 (by decide) ?_
  refine s_iconst 0 hX dX2_find_11 (by decide) ?_
  refine s_istore_n hX dX2_find_12 (by decide) ?_
  obtain ⟨σ3, hc, h⟩ := bn_some h
  refine s_mask [true, true, true, false, false] ?_
  refine pX2_find_13 hX hcs _ _ _ _ hc ?_
  obtain rfl := rt1 h
  exact hret _ _ dX2_find_93
def fX9_analyse (σ : Mm) : Option Mm :=
  if (σ 0 13) = 0 then
  (fX1_find σ).bind fun σ1 =>
  (fX2_find σ1).bind fun σ2 =>
  bd (upm σ2 0 (upd (σ2 0) 13 1)) fun σ3 =>
  some σ3
else
  some σ
set_option maxHeartbeats 4000000 in
theorem cX9_analyse_ok (l : Launch) {σ : Mm} {σ' : Mm}  (h : fX9_analyse σ = some σ') : cV l yX9_analyse cX9_analyse 1 4 92 (fun ad => [.ref (ad 0)]) σ σ' := by
  refine c_enterV (fun ad => [some (.ref (ad 0))]) (by decide) (fun ad => ⟨by simp [Value.category], Nat.le_of_ble_eq_true rfl⟩) (fun ad => ⟨0, rfl⟩) ?_
  intro X _ hX hret
  have hcs : ((0 : Nat), (0 : Nat)).1 ≤ (sR X).cells ∧ ((0 : Nat), (0 : Nat)).2 ≤ (sR X).slots := ⟨Nat.zero_le _, Nat.zero_le _⟩
  generalize hcs0 : ((0 : Nat), (0 : Nat)) = cs at hcs hret ⊢
  unfold fX9_analyse at h
  show sW X 1 cs σ 0 [some (.ref (sad X 0))] []
  refine s_aload_n hX dX9_analyse_0 rfl ?_
  refine s_getI hX fo_RX9_322_8 SH_0 rfl dX9_analyse_1 ?_
  refine s_if_ne (tgt := 26) hX dX9_analyse_4 (by decide) (fun c4 => ?_) (fun c4 => ?_)
  · replace h := (if_neg c4).symm.trans h
    obtain rfl := rt1 h
    exact hret _ _ dX9_analyse_26
  · replace h := (if_pos c4).symm.trans h
    refine s_aload_n hX dX9_analyse_7 rfl ?_
    refine s_getR (r := 87) hX fo_RX9_32_8 SH_0 rfl dX9_analyse_8 ?_
    obtain ⟨σ1, hc, h⟩ := bn_some h
    refine s_callVV _ hX (cX1_find_ok (sl X)  hc) SH_87 mv_RX9_325_1 (fun _ => rfl) (by decide) (Nat.le_of_ble_eq_true rfl) hcs dX9_analyse_11 rfl ?_
    refine s_aload_n hX dX9_analyse_14 rfl ?_
    refine s_getR (r := 94) hX fo_RX9_36_8 SH_0 rfl dX9_analyse_15 ?_
    obtain ⟨σ2, hc, h⟩ := bn_some h
    refine s_callVV _ hX (cX2_find_ok (sl X)  hc) SH_94 mv_RX9_328_2 (fun _ => rfl) (by decide) (Nat.le_of_ble_eq_true rfl) hcs dX9_analyse_18 rfl ?_
    refine s_aload_n hX dX9_analyse_21 rfl ?_
    refine s_iconst 1 hX dX9_analyse_22 (by decide) ?_
    obtain ⟨σ3, eσ3, h⟩ := bd_some h
    refine s_putZ hX fo_RX9_322_8 SH_0 rfl (Or.inr rfl) dX9_analyse_23 ?_
    refine s_mem σ3 eσ3 ?_
    obtain rfl := rt1 h
    exact hret _ _ dX9_analyse_26
def fJ6_bitCount_0f7a4 (σ : Mm) (l0 : Int32) : Option Int32 :=
  bd (l0 - ((usr l0 1) &&& 1431655765)) fun v1 =>
  bd ((v1 &&& 858993459) + ((usr v1 2) &&& 858993459)) fun v2 =>
  bd ((v2 + (usr v2 4)) &&& 252645135) fun v3 =>
  bd (v3 + (usr v3 8)) fun v4 =>
  bd (v4 + (usr v4 16)) fun v5 =>
  some (v5 &&& 63)
set_option maxHeartbeats 4000000 in
theorem cJ6_bitCount_0f7a4_ok (l : Launch) {σ : Mm} {l0 : Int32} {r : Int32}  (h : fJ6_bitCount_0f7a4 σ l0 = some r) : cI l yJ6_bitCount_0f7a4 cJ6_bitCount_0f7a4 1 .int 0 0 (fun ad => [.int l0]) σ r σ := by
  refine c_enterI (fun ad => [some (.int l0)]) (by decide) (fun ad => ⟨by simp [Value.category], Nat.le_of_ble_eq_true rfl⟩) (fun ad => ⟨0, rfl⟩) ?_
  intro X _ hX hret
  have hcs : ((0 : Nat), (0 : Nat)).1 ≤ (sR X).cells ∧ ((0 : Nat), (0 : Nat)).2 ≤ (sR X).slots := ⟨Nat.zero_le _, Nat.zero_le _⟩
  generalize hcs0 : ((0 : Nat), (0 : Nat)) = cs at hcs hret ⊢
  unfold fJ6_bitCount_0f7a4 at h
  show sW X 1 cs σ 0 [some (.int l0)] []
  refine s_iload_n hX dJ6_bitCount_0f7a4_0 rfl ?_
  refine s_iload_n hX dJ6_bitCount_0f7a4_1 rfl ?_
  refine s_iconst 1 hX dJ6_bitCount_0f7a4_2 (by decide) ?_
  refine s_iushr hX dJ6_bitCount_0f7a4_3 ?_
  refine s_ldcw hX w3_20 dJ6_bitCount_0f7a4_4 ?_
  refine s_iand hX dJ6_bitCount_0f7a4_7 ?_
  refine s_isub hX dJ6_bitCount_0f7a4_8 ?_
  obtain ⟨v1, ev1, h⟩ := bd_some h
  refine s_topi v1 ev1 ?_
  refine s_istore_n hX dJ6_bitCount_0f7a4_9 (by decide) ?_
  refine s_iload_n hX dJ6_bitCount_0f7a4_10 rfl ?_
  refine s_ldcw hX w3_21 dJ6_bitCount_0f7a4_11 ?_
  refine s_iand hX dJ6_bitCount_0f7a4_14 ?_
  refine s_iload_n hX dJ6_bitCount_0f7a4_15 rfl ?_
  refine s_iconst 2 hX dJ6_bitCount_0f7a4_16 (by decide) ?_
  refine s_iushr hX dJ6_bitCount_0f7a4_17 ?_
  refine s_ldcw hX w3_21 dJ6_bitCount_0f7a4_18 ?_
  refine s_iand hX dJ6_bitCount_0f7a4_21 ?_
  refine s_iadd hX dJ6_bitCount_0f7a4_22 ?_
  obtain ⟨v2, ev2, h⟩ := bd_some h
  refine s_topi v2 ev2 ?_
  refine s_istore_n hX dJ6_bitCount_0f7a4_23 (by decide) ?_
  refine s_iload_n hX dJ6_bitCount_0f7a4_24 rfl ?_
  refine s_iload_n hX dJ6_bitCount_0f7a4_25 rfl ?_
  refine s_iconst 4 hX dJ6_bitCount_0f7a4_26 (by decide) ?_
  refine s_iushr hX dJ6_bitCount_0f7a4_27 ?_
  refine s_iadd hX dJ6_bitCount_0f7a4_28 ?_
  refine s_ldcw hX w3_22 dJ6_bitCount_0f7a4_29 ?_
  refine s_iand hX dJ6_bitCount_0f7a4_32 ?_
  obtain ⟨v3, ev3, h⟩ := bd_some h
  refine s_topi v3 ev3 ?_
  refine s_istore_n hX dJ6_bitCount_0f7a4_33 (by decide) ?_
  refine s_iload_n hX dJ6_bitCount_0f7a4_34 rfl ?_
  refine s_iload_n hX dJ6_bitCount_0f7a4_35 rfl ?_
  refine s_bipush 8 hX dJ6_bitCount_0f7a4_36 (by decide) ?_
  refine s_iushr hX dJ6_bitCount_0f7a4_38 ?_
  refine s_iadd hX dJ6_bitCount_0f7a4_39 ?_
  obtain ⟨v4, ev4, h⟩ := bd_some h
  refine s_topi v4 ev4 ?_
  refine s_istore_n hX dJ6_bitCount_0f7a4_40 (by decide) ?_
  refine s_iload_n hX dJ6_bitCount_0f7a4_41 rfl ?_
  refine s_iload_n hX dJ6_bitCount_0f7a4_42 rfl ?_
  refine s_bipush 16 hX dJ6_bitCount_0f7a4_43 (by decide) ?_
  refine s_iushr hX dJ6_bitCount_0f7a4_45 ?_
  refine s_iadd hX dJ6_bitCount_0f7a4_46 ?_
  obtain ⟨v5, ev5, h⟩ := bd_some h
  refine s_topi v5 ev5 ?_
  refine s_istore_n hX dJ6_bitCount_0f7a4_47 (by decide) ?_
  refine s_iload_n hX dJ6_bitCount_0f7a4_48 rfl ?_
  refine s_bipush 63 hX dJ6_bitCount_0f7a4_49 (by decide) ?_
  refine s_iand hX dJ6_bitCount_0f7a4_51 ?_
  obtain rfl := rt1 h
  exact hret _ _ (nzi _) dJ6_bitCount_0f7a4_52
def gX1_greatestLive_17 (σ : Mm) (l2 : Int32) (rec : Int32 × Int32 → Option (Int32)) (x1 : Int32) (x3 : Int32) : Option (Int32) :=
  gd l2 8 <|
  bd (4 + 5 * l2.toNatClampNeg) fun k2 =>
  if (σ k2 4) < x3 then
  some x1
else
  gd ((l2 * 9) + x3) 72 <|
  (fJ6_bitCount_0f7a4 σ (σ 88 ((l2 * 9) + x3).toNatClampNeg)).bind fun r4 =>
  bd (mx x1 r4) fun v5 =>
  bd (x3 + 1) fun v6 =>
  rec (v5, v6)
def qX1_greatestLive_17 (σ : Mm) (l2 : Int32) : Nat → Int32 × Int32 → Option (Int32) := lp (fun rec s => gX1_greatestLive_17 σ l2 rec s.1 s.2)
def gX1_greatestLive_4 (σ : Mm) (rec : Int32 × Int32 → Option (Int32)) (x1 : Int32) (x2 : Int32) : Option (Int32) :=
  if (σ 1 2) ≤ x2 then
  some x1
else
  (qX1_greatestLive_17 σ x2 FU (x1, 0)).bind fun v1 =>
  bd (x2 + 1) fun v2 =>
  rec (v1, v2)
def qX1_greatestLive_4 (σ : Mm) : Nat → Int32 × Int32 → Option (Int32) := lp (fun rec s => gX1_greatestLive_4 σ rec s.1 s.2)
def fX1_greatestLive (σ : Mm) : Option Int32 :=
  (qX1_greatestLive_4 σ FU (0, 0)).bind fun v1 =>
  some v1
set_option maxHeartbeats 4000000 in
theorem pX1_greatestLive_17 {X : sT} {cs : Nat × Nat} (hX : sX X cX1_greatestLive RX1 4 1 40) (hcs : cs.1 ≤ (sR X).cells ∧ cs.2 ≤ (sR X).slots) (σ : Mm) (l2 : Int32)  : ∀ (n : Nat) (s : Int32 × Int32) (r : Int32), qX1_greatestLive_17 σ l2 n s = some r → sW X 4 cs σ 58 [some (.ref (sad X 87)), some (.int r), some (.int l2), none] [] → sW X 4 cs σ 17 [some (.ref (sad X 87)), some (.int s.1), some (.int l2), some (.int s.2)] [] := by
  refine lp_ind (P := fun (s : Int32 × Int32) (r : Int32) => sW X 4 cs σ 58 [some (.ref (sad X 87)), some (.int r), some (.int l2), none] [] → sW X 4 cs σ 17 [some (.ref (sad X 87)), some (.int s.1), some (.int l2), some (.int s.2)] []) ?_
  intro rec hrec s r h0 hk
  obtain ⟨x1, x3⟩ := s
  have h : gX1_greatestLive_17 σ l2 rec x1 x3 = some r := h0
  unfold gX1_greatestLive_17 at h
  show sW X 4 cs σ 17 [some (.ref (sad X 87)), some (.int x1), some (.int l2), some (.int x3)] []
  refine s_iload_n hX dX1_greatestLive_17 rfl ?_
  refine s_aload_n hX dX1_greatestLive_18 rfl ?_
  refine s_getR (r := 1) hX fo_RX1_30_1 SH_87 rfl dX1_greatestLive_19 ?_
  refine s_getR (r := 2) hX fo_RX1_59_6 SH_1 rfl dX1_greatestLive_22 ?_
  refine s_iload_n hX dX1_greatestLive_25 rfl ?_
  obtain ⟨c1, h⟩ := gd_some h
  obtain ⟨k2, ek2, h⟩ := bd_some h
  have Bk2 : isB k2 := Or.inl ⟨_, vp_lt c1, ek2⟩
  refine s_aaldP hX c1 dX1_greatestLive_26 ?_
  refine s_topr k2 ek2 ?_
  refine s_getI hX fo_RX1_80_0 (isB_0 Bk2) rfl dX1_greatestLive_27 ?_
  refine s_ic_gt (tgt := 58) hX dX1_greatestLive_30 (by decide) (fun c7 => ?_) (fun c7 => ?_)
  · replace h := (if_pos c7).symm.trans h
    obtain rfl := rt1 h
    refine s_mask [true, true, true, false] ?_
    exact hk
  · replace h := (if_neg c7).symm.trans h
    refine s_iload_n hX dX1_greatestLive_33 rfl ?_
    refine s_aload_n hX dX1_greatestLive_34 rfl ?_
    refine s_getR (r := 88) hX fo_RX1_9_1 SH_87 rfl dX1_greatestLive_35 ?_
    refine s_iload_n hX dX1_greatestLive_38 rfl ?_
    refine s_bipush 9 hX dX1_greatestLive_39 (by decide) ?_
    refine s_imul hX dX1_greatestLive_41 ?_
    refine s_iload_n hX dX1_greatestLive_42 rfl ?_
    refine s_iadd hX dX1_greatestLive_43 ?_
    obtain ⟨c3, h⟩ := gd_some h
    refine s_iald hX SH_88 c3 dX1_greatestLive_44 ?_
    obtain ⟨r4, hc, h⟩ := bn_some h
    refine s_callSI _ hX (cJ6_bitCount_0f7a4_ok (sl X)  hc) ms_RX1_100 (fun _ => rfl) (by decide) (Nat.le_of_ble_eq_true rfl) hcs dX1_greatestLive_45 rfl ?_
    refine s_max hX w3_23 (by decide) (Nat.le_of_ble_eq_true rfl) hcs dX1_greatestLive_48 ?_
    obtain ⟨v5, ev5, h⟩ := bd_some h
    refine s_topi v5 ev5 ?_
    refine s_istore_n hX dX1_greatestLive_51 (by decide) ?_
    obtain ⟨v6, ev6, h⟩ := bd_some h
    refine s_iinc v6 hX dX1_greatestLive_52 rfl (by rw [ev6]; rfl) (by decide) ?_
    refine s_goto (tgt := 17) hX dX1_greatestLive_55 (by decide) ?_
    refine s_mask [true, true, true, true] ?_
    exact hrec _ _ h hk
set_option maxHeartbeats 4000000 in
theorem pX1_greatestLive_4 {X : sT} {cs : Nat × Nat} (hX : sX X cX1_greatestLive RX1 4 1 40) (hcs : cs.1 ≤ (sR X).cells ∧ cs.2 ≤ (sR X).slots) (σ : Mm)  : ∀ (n : Nat) (s : Int32 × Int32) (r : Int32), qX1_greatestLive_4 σ n s = some r → sW X 4 cs σ 64 [none, some (.int r), none, none] [] → sW X 4 cs σ 4 [some (.ref (sad X 87)), some (.int s.1), some (.int s.2), none] [] := by
  refine lp_ind (P := fun (s : Int32 × Int32) (r : Int32) => sW X 4 cs σ 64 [none, some (.int r), none, none] [] → sW X 4 cs σ 4 [some (.ref (sad X 87)), some (.int s.1), some (.int s.2), none] []) ?_
  intro rec hrec s r h0 hk
  obtain ⟨x1, x2⟩ := s
  have h : gX1_greatestLive_4 σ rec x1 x2 = some r := h0
  unfold gX1_greatestLive_4 at h
  show sW X 4 cs σ 4 [some (.ref (sad X 87)), some (.int x1), some (.int x2), none] []
  refine s_iload_n hX dX1_greatestLive_4 rfl ?_
  refine s_aload_n hX dX1_greatestLive_5 rfl ?_
  refine s_getR (r := 1) hX fo_RX1_30_1 SH_87 rfl dX1_greatestLive_6 ?_
  refine s_getI hX fo_RX1_49_6 SH_1 rfl dX1_greatestLive_9 ?_
  refine s_ic_ge (tgt := 64) hX dX1_greatestLive_12 (by decide) (fun c3 => ?_) (fun c3 => ?_)
  · replace h := (if_pos c3).symm.trans h
    obtain rfl := rt1 h
    refine s_mask [false, true, false, false] ?_
    exact hk
  · replace h := (if_neg c3).symm.trans h
    refine s_iconst 0 hX dX1_greatestLive_15 (by decide) ?_
    refine s_istore_n hX dX1_greatestLive_16 (by decide) ?_
    obtain ⟨v1, hc, h⟩ := bn_some h
    refine s_mask [true, true, true, true] ?_
    refine pX1_greatestLive_17 hX hcs _ _ _ _ _ hc ?_
    obtain ⟨v2, ev2, h⟩ := bd_some h
    refine s_iinc v2 hX dX1_greatestLive_58 rfl (by rw [ev2]; rfl) (by decide) ?_
    refine s_goto (tgt := 4) hX dX1_greatestLive_61 (by decide) ?_
    refine s_mask [true, true, true, false] ?_
    exact hrec _ _ h hk
set_option maxHeartbeats 4000000 in
theorem cX1_greatestLive_ok (l : Launch) {σ : Mm} {r : Int32}  (h : fX1_greatestLive σ = some r) : cI l yX1_greatestLive cX1_greatestLive 4 .int 1 40 (fun ad => [.ref (ad 87)]) σ r σ := by
  refine c_enterI (fun ad => [some (.ref (ad 87)), none, none, none]) (by decide) (fun ad => ⟨by simp [Value.category], Nat.le_of_ble_eq_true rfl⟩) (fun ad => ⟨3, rfl⟩) ?_
  intro X _ hX hret
  have hcs : ((0 : Nat), (0 : Nat)).1 ≤ (sR X).cells ∧ ((0 : Nat), (0 : Nat)).2 ≤ (sR X).slots := ⟨Nat.zero_le _, Nat.zero_le _⟩
  generalize hcs0 : ((0 : Nat), (0 : Nat)) = cs at hcs hret ⊢
  unfold fX1_greatestLive at h
  show sW X 4 cs σ 0 [some (.ref (sad X 87)), none, none, none] []
  refine s_iconst 0 hX dX1_greatestLive_0 (by decide) ?_
  refine s_istore_n hX dX1_greatestLive_1 (by decide) ?_
  refine s_iconst 0 hX dX1_greatestLive_2 (by decide) ?_
  refine s_istore_n hX dX1_greatestLive_3 (by decide) ?_
  obtain ⟨v1, hc, h⟩ := bn_some h
  refine s_mask [true, true, true, false] ?_
  refine pX1_greatestLive_4 hX hcs _ _ _ _ hc ?_
  refine s_iload_n hX dX1_greatestLive_64 rfl ?_
  obtain rfl := rt1 h
  exact hret _ _ (nzi _) dX1_greatestLive_65
def fX9_pressure (σ : Mm) : Option (Int32 × Mm) :=
  (fX9_analyse σ).bind fun σ1 =>
  (fX1_greatestLive σ1).bind fun r2 =>
  some (r2, σ1)
set_option maxHeartbeats 4000000 in
theorem cX9_pressure_ok (l : Launch) {σ : Mm} {r : Int32} {σ' : Mm}  (h : fX9_pressure σ = some (r, σ')) : cI l yX9_pressure cX9_pressure 1 .int 5 112 (fun ad => [.ref (ad 0)]) σ r σ' := by
  refine c_enterI (fun ad => [some (.ref (ad 0))]) (by decide) (fun ad => ⟨by simp [Value.category], Nat.le_of_ble_eq_true rfl⟩) (fun ad => ⟨0, rfl⟩) ?_
  intro X _ hX hret
  have hcs : ((0 : Nat), (0 : Nat)).1 ≤ (sR X).cells ∧ ((0 : Nat), (0 : Nat)).2 ≤ (sR X).slots := ⟨Nat.zero_le _, Nat.zero_le _⟩
  generalize hcs0 : ((0 : Nat), (0 : Nat)) = cs at hcs hret ⊢
  unfold fX9_pressure at h
  show sW X 1 cs σ 0 [some (.ref (sad X 0))] []
  refine s_aload_n hX dX9_pressure_0 rfl ?_
  obtain ⟨σ1, hc, h⟩ := bn_some h
  refine s_callVV _ hX (cX9_analyse_ok (sl X)  hc) SH_0 mv_RX9_173_8 (fun _ => rfl) (by decide) (Nat.le_of_ble_eq_true rfl) hcs dX9_pressure_1 rfl ?_
  refine s_aload_n hX dX9_pressure_4 rfl ?_
  refine s_getR (r := 87) hX fo_RX9_32_8 SH_0 rfl dX9_pressure_5 ?_
  obtain ⟨r2, hc, h⟩ := bn_some h
  refine s_callVI _ hX (cX1_greatestLive_ok (sl X)  hc) SH_87 mv_RX9_182_1 (fun _ => rfl) (by decide) (Nat.le_of_ble_eq_true rfl) hcs dX9_pressure_8 rfl ?_
  obtain ⟨rfl, rfl⟩ := rt2 h
  exact hret _ _ (nzi _) dX9_pressure_11
def fX9_loops (σ : Mm) : Option (Int32 × Mm) :=
  (fX9_analyse σ).bind fun σ1 =>
  some (σ1 94 3, σ1)
set_option maxHeartbeats 4000000 in
theorem cX9_loops_ok (l : Launch) {σ : Mm} {r : Int32} {σ' : Mm}  (h : fX9_loops σ = some (r, σ')) : cI l yX9_loops cX9_loops 1 .int 5 112 (fun ad => [.ref (ad 0)]) σ r σ' := by
  refine c_enterI (fun ad => [some (.ref (ad 0))]) (by decide) (fun ad => ⟨by simp [Value.category], Nat.le_of_ble_eq_true rfl⟩) (fun ad => ⟨0, rfl⟩) ?_
  intro X _ hX hret
  have hcs : ((0 : Nat), (0 : Nat)).1 ≤ (sR X).cells ∧ ((0 : Nat), (0 : Nat)).2 ≤ (sR X).slots := ⟨Nat.zero_le _, Nat.zero_le _⟩
  generalize hcs0 : ((0 : Nat), (0 : Nat)) = cs at hcs hret ⊢
  unfold fX9_loops at h
  show sW X 1 cs σ 0 [some (.ref (sad X 0))] []
  refine s_aload_n hX dX9_loops_0 rfl ?_
  obtain ⟨σ1, hc, h⟩ := bn_some h
  refine s_callVV _ hX (cX9_analyse_ok (sl X)  hc) SH_0 mv_RX9_173_8 (fun _ => rfl) (by decide) (Nat.le_of_ble_eq_true rfl) hcs dX9_loops_1 rfl ?_
  refine s_aload_n hX dX9_loops_4 rfl ?_
  refine s_getR (r := 94) hX fo_RX9_36_8 SH_0 rfl dX9_loops_5 ?_
  refine s_getI hX fo_RX9_186_2 SH_94 rfl dX9_loops_8 ?_
  obtain ⟨rfl, rfl⟩ := rt2 h
  exact hret _ _ (nzi _) dX9_loops_11
def fX2_isWithin (σ : Mm) (l1 : Int32) (l2 : Int32) : Option Int32 :=
  gd l1 8 <|
  gd l2 8 <|
  if ((σ 96 l1.toNatClampNeg) &&& ((σ 96 l2.toNatClampNeg) ^^^ (-1))) = 0 then
  some 1
else
  some 0
set_option maxHeartbeats 4000000 in
theorem cX2_isWithin_ok (l : Launch) {σ : Mm} {l1 : Int32} {l2 : Int32} {r : Int32}  (h : fX2_isWithin σ l1 l2 = some r) : cI l yX2_isWithin cX2_isWithin 3 .boolean 0 0 (fun ad => [.ref (ad 94), .int l1, .int l2]) σ r σ := by
  refine c_enterI (fun ad => [some (.ref (ad 94)), some (.int l1), some (.int l2)]) (by decide) (fun ad => ⟨by simp [Value.category], Nat.le_of_ble_eq_true rfl⟩) (fun ad => ⟨0, rfl⟩) ?_
  intro X _ hX hret
  have hcs : ((0 : Nat), (0 : Nat)).1 ≤ (sR X).cells ∧ ((0 : Nat), (0 : Nat)).2 ≤ (sR X).slots := ⟨Nat.zero_le _, Nat.zero_le _⟩
  generalize hcs0 : ((0 : Nat), (0 : Nat)) = cs at hcs hret ⊢
  unfold fX2_isWithin at h
  show sW X 3 cs σ 0 [some (.ref (sad X 94)), some (.int l1), some (.int l2)] []
  refine s_aload_n hX dX2_isWithin_0 rfl ?_
  refine s_getR (r := 96) hX fo_RX2_15_2 SH_94 rfl dX2_isWithin_1 ?_
  refine s_iload_n hX dX2_isWithin_4 rfl ?_
  obtain ⟨c1, h⟩ := gd_some h
  refine s_iald hX SH_96 c1 dX2_isWithin_5 ?_
  refine s_aload_n hX dX2_isWithin_6 rfl ?_
  refine s_getR (r := 96) hX fo_RX2_15_2 SH_94 rfl dX2_isWithin_7 ?_
  refine s_iload_n hX dX2_isWithin_10 rfl ?_
  obtain ⟨c2, h⟩ := gd_some h
  refine s_iald hX SH_96 c2 dX2_isWithin_11 ?_
  refine s_iconst (-1) hX dX2_isWithin_12 (by decide) ?_
  refine s_ixor hX dX2_isWithin_13 ?_
  refine s_iand hX dX2_isWithin_14 ?_
  refine s_if_ne (tgt := 22) hX dX2_isWithin_15 (by decide) (fun c3 => ?_) (fun c3 => ?_)
  · replace h := (if_neg c3).symm.trans h
    refine s_iconst 0 hX dX2_isWithin_22 (by decide) ?_
    obtain rfl := rt1 h
    exact hret _ _ nz0 dX2_isWithin_23
  · replace h := (if_pos c3).symm.trans h
    refine s_iconst 1 hX dX2_isWithin_18 (by decide) ?_
    refine s_goto (tgt := 23) hX dX2_isWithin_19 (by decide) ?_
    obtain rfl := rt1 h
    exact hret _ _ nz1 dX2_isWithin_23
def gX2_depth_4 (σ : Mm) (l1 : Int32) (rec : Int32 × Int32 → Option (Int32)) (x2 : Int32) (x3 : Int32) : Option (Int32) :=
  if (σ 94 3) ≤ x3 then
  some x2
else
  if x3 = l1 then
  bd (x3 + 1) fun v1 =>
  rec (x2, v1)
else
  (fX2_isWithin σ l1 x3).bind fun r2 =>
  if r2 = 0 then
  bd (x3 + 1) fun v3 =>
  rec (x2, v3)
else
  bd (x2 + 1) fun v4 =>
  bd (x3 + 1) fun v5 =>
  rec (v4, v5)
def qX2_depth_4 (σ : Mm) (l1 : Int32) : Nat → Int32 × Int32 → Option (Int32) := lp (fun rec s => gX2_depth_4 σ l1 rec s.1 s.2)
def fX2_depth (σ : Mm) (l1 : Int32) : Option Int32 :=
  (qX2_depth_4 σ l1 FU (0, 0)).bind fun v1 =>
  some v1
set_option maxHeartbeats 4000000 in
theorem pX2_depth_4 {X : sT} {cs : Nat × Nat} (hX : sX X cX2_depth RX2 4 1 22) (hcs : cs.1 ≤ (sR X).cells ∧ cs.2 ≤ (sR X).slots) (σ : Mm) (l1 : Int32)  : ∀ (n : Nat) (s : Int32 × Int32) (r : Int32), qX2_depth_4 σ l1 n s = some r → sW X 4 cs σ 35 [none, none, some (.int r), none] [] → sW X 4 cs σ 4 [some (.ref (sad X 94)), some (.int l1), some (.int s.1), some (.int s.2)] [] := by
  refine lp_ind (P := fun (s : Int32 × Int32) (r : Int32) => sW X 4 cs σ 35 [none, none, some (.int r), none] [] → sW X 4 cs σ 4 [some (.ref (sad X 94)), some (.int l1), some (.int s.1), some (.int s.2)] []) ?_
  intro rec hrec s r h0 hk
  obtain ⟨x2, x3⟩ := s
  have h : gX2_depth_4 σ l1 rec x2 x3 = some r := h0
  unfold gX2_depth_4 at h
  show sW X 4 cs σ 4 [some (.ref (sad X 94)), some (.int l1), some (.int x2), some (.int x3)] []
  refine s_iload_n hX dX2_depth_4 rfl ?_
  refine s_aload_n hX dX2_depth_5 rfl ?_
  refine s_getI hX fo_RX2_22_2 SH_94 rfl dX2_depth_6 ?_
  refine s_ic_ge (tgt := 35) hX dX2_depth_9 (by decide) (fun c8 => ?_) (fun c8 => ?_)
  · replace h := (if_pos c8).symm.trans h
    obtain rfl := rt1 h
    refine s_mask [false, false, true, false] ?_
    exact hk
  · replace h := (if_neg c8).symm.trans h
    refine s_iload_n hX dX2_depth_12 rfl ?_
    refine s_iload_n hX dX2_depth_13 rfl ?_
    refine s_ic_eq (tgt := 29) hX dX2_depth_14 (by decide) (fun c7 => ?_) (fun c7 => ?_)
    · replace h := (if_pos c7).symm.trans h
      obtain ⟨v1, ev1, h⟩ := bd_some h
      refine s_iinc v1 hX dX2_depth_29 rfl (by rw [ev1]; rfl) (by decide) ?_
      refine s_goto (tgt := 4) hX dX2_depth_32 (by decide) ?_
      refine s_mask [true, true, true, true] ?_
      exact hrec _ _ h hk
    · replace h := (if_neg c7).symm.trans h
      refine s_aload_n hX dX2_depth_17 rfl ?_
      refine s_iload_n hX dX2_depth_18 rfl ?_
      refine s_iload_n hX dX2_depth_19 rfl ?_
      obtain ⟨r2, hc, h⟩ := bn_some h
      refine s_callVI _ hX (cX2_isWithin_ok (sl X)  hc) SH_94 mv_RX2_56_2 (fun _ => rfl) (by decide) (Nat.le_of_ble_eq_true rfl) hcs dX2_depth_20 rfl ?_
      refine s_if_eq (tgt := 29) hX dX2_depth_23 (by decide) (fun c6 => ?_) (fun c6 => ?_)
      · replace h := (if_pos c6).symm.trans h
        obtain ⟨v3, ev3, h⟩ := bd_some h
        refine s_iinc v3 hX dX2_depth_29 rfl (by rw [ev3]; rfl) (by decide) ?_
        refine s_goto (tgt := 4) hX dX2_depth_32 (by decide) ?_
        refine s_mask [true, true, true, true] ?_
        exact hrec _ _ h hk
      · replace h := (if_neg c6).symm.trans h
        obtain ⟨v4, ev4, h⟩ := bd_some h
        refine s_iinc v4 hX dX2_depth_26 rfl (by rw [ev4]; rfl) (by decide) ?_
        obtain ⟨v5, ev5, h⟩ := bd_some h
        refine s_iinc v5 hX dX2_depth_29 rfl (by rw [ev5]; rfl) (by decide) ?_
        refine s_goto (tgt := 4) hX dX2_depth_32 (by decide) ?_
        refine s_mask [true, true, true, true] ?_
        exact hrec _ _ h hk
set_option maxHeartbeats 4000000 in
theorem cX2_depth_ok (l : Launch) {σ : Mm} {l1 : Int32} {r : Int32}  (h : fX2_depth σ l1 = some r) : cI l yX2_depth cX2_depth 4 .int 1 22 (fun ad => [.ref (ad 94), .int l1]) σ r σ := by
  refine c_enterI (fun ad => [some (.ref (ad 94)), some (.int l1), none, none]) (by decide) (fun ad => ⟨by simp [Value.category], Nat.le_of_ble_eq_true rfl⟩) (fun ad => ⟨2, rfl⟩) ?_
  intro X _ hX hret
  have hcs : ((0 : Nat), (0 : Nat)).1 ≤ (sR X).cells ∧ ((0 : Nat), (0 : Nat)).2 ≤ (sR X).slots := ⟨Nat.zero_le _, Nat.zero_le _⟩
  generalize hcs0 : ((0 : Nat), (0 : Nat)) = cs at hcs hret ⊢
  unfold fX2_depth at h
  show sW X 4 cs σ 0 [some (.ref (sad X 94)), some (.int l1), none, none] []
  refine s_iconst 0 hX dX2_depth_0 (by decide) ?_
  refine s_istore_n hX dX2_depth_1 (by decide) ?_
  refine s_iconst 0 hX dX2_depth_2 (by decide) ?_
  refine s_istore_n hX dX2_depth_3 (by decide) ?_
  obtain ⟨v1, hc, h⟩ := bn_some h
  refine s_mask [true, true, true, true] ?_
  refine pX2_depth_4 hX hcs _ _ _ _ _ hc ?_
  refine s_iload_n hX dX2_depth_35 rfl ?_
  obtain rfl := rt1 h
  exact hret _ _ (nzi _) dX2_depth_36
def gX1_canRecompute_20 (σ : Mm) (l1 : Int32) (rec : Int32 × Int32 → Option (Int32)) (x2 : Int32) (x3 : Int32) : Option (Int32) :=
  if (σ 1 2) ≤ x3 then
  some x2
else
  gd ((x3 * 12) + l1) 96 <|
  bd (x2 + (σ 90 ((x3 * 12) + l1).toNatClampNeg)) fun v2 =>
  bd (x3 + 1) fun v3 =>
  rec (v2, v3)
def qX1_canRecompute_20 (σ : Mm) (l1 : Int32) : Nat → Int32 × Int32 → Option (Int32) := lp (fun rec s => gX1_canRecompute_20 σ l1 rec s.1 s.2)
def fX1_canRecompute (σ : Mm) (l1 : Int32) : Option Int32 :=
  (fX1_liveAtBeginning σ 0).bind fun r1 =>
  (fX9_has σ r1 l1).bind fun r2 =>
  jn (fun (v3 : Int32) => (qX1_canRecompute_20 σ l1 FU (v3, 0)).bind fun v5 =>
  if v5 = 1 then
  gd l1 12 <|
  if (σ 92 l1.toNatClampNeg) = 1 then
  some 1
else
  some 0
else
  some 0) fun j4 =>
  if r2 = 0 then
  j4 0
else
  j4 1
set_option maxHeartbeats 4000000 in
theorem pX1_canRecompute_20 {X : sT} {cs : Nat × Nat} (hX : sX X cX1_canRecompute RX1 4 1 21) (hcs : cs.1 ≤ (sR X).cells ∧ cs.2 ≤ (sR X).slots) (σ : Mm) (l1 : Int32)  : ∀ (n : Nat) (s : Int32 × Int32) (r : Int32), qX1_canRecompute_20 σ l1 n s = some r → sW X 4 cs σ 51 [some (.ref (sad X 87)), some (.int l1), some (.int r), none] [] → sW X 4 cs σ 20 [some (.ref (sad X 87)), some (.int l1), some (.int s.1), some (.int s.2)] [] := by
  refine lp_ind (P := fun (s : Int32 × Int32) (r : Int32) => sW X 4 cs σ 51 [some (.ref (sad X 87)), some (.int l1), some (.int r), none] [] → sW X 4 cs σ 20 [some (.ref (sad X 87)), some (.int l1), some (.int s.1), some (.int s.2)] []) ?_
  intro rec hrec s r h0 hk
  obtain ⟨x2, x3⟩ := s
  have h : gX1_canRecompute_20 σ l1 rec x2 x3 = some r := h0
  unfold gX1_canRecompute_20 at h
  show sW X 4 cs σ 20 [some (.ref (sad X 87)), some (.int l1), some (.int x2), some (.int x3)] []
  refine s_iload_n hX dX1_canRecompute_20 rfl ?_
  refine s_aload_n hX dX1_canRecompute_21 rfl ?_
  refine s_getR (r := 1) hX fo_RX1_30_1 SH_87 rfl dX1_canRecompute_22 ?_
  refine s_getI hX fo_RX1_49_6 SH_1 rfl dX1_canRecompute_25 ?_
  refine s_ic_ge (tgt := 51) hX dX1_canRecompute_28 (by decide) (fun c4 => ?_) (fun c4 => ?_)
  · replace h := (if_pos c4).symm.trans h
    obtain rfl := rt1 h
    refine s_mask [true, true, true, false] ?_
    exact hk
  · replace h := (if_neg c4).symm.trans h
    refine s_iload_n hX dX1_canRecompute_31 rfl ?_
    refine s_aload_n hX dX1_canRecompute_32 rfl ?_
    refine s_getR (r := 90) hX fo_RX1_18_1 SH_87 rfl dX1_canRecompute_33 ?_
    refine s_iload_n hX dX1_canRecompute_36 rfl ?_
    refine s_bipush 12 hX dX1_canRecompute_37 (by decide) ?_
    refine s_imul hX dX1_canRecompute_39 ?_
    refine s_iload_n hX dX1_canRecompute_40 rfl ?_
    refine s_iadd hX dX1_canRecompute_41 ?_
    obtain ⟨c1, h⟩ := gd_some h
    refine s_iald hX SH_90 c1 dX1_canRecompute_42 ?_
    refine s_iadd hX dX1_canRecompute_43 ?_
    obtain ⟨v2, ev2, h⟩ := bd_some h
    refine s_topi v2 ev2 ?_
    refine s_istore_n hX dX1_canRecompute_44 (by decide) ?_
    obtain ⟨v3, ev3, h⟩ := bd_some h
    refine s_iinc v3 hX dX1_canRecompute_45 rfl (by rw [ev3]; rfl) (by decide) ?_
    refine s_goto (tgt := 20) hX dX1_canRecompute_48 (by decide) ?_
    refine s_mask [true, true, true, true] ?_
    exact hrec _ _ h hk
set_option maxHeartbeats 4000000 in
theorem cX1_canRecompute_ok (l : Launch) {σ : Mm} {l1 : Int32} {r : Int32}  (h : fX1_canRecompute σ l1 = some r) : cI l yX1_canRecompute cX1_canRecompute 4 .boolean 1 21 (fun ad => [.ref (ad 87), .int l1]) σ r σ := by
  refine c_enterI (fun ad => [some (.ref (ad 87)), some (.int l1), none, none]) (by decide) (fun ad => ⟨by simp [Value.category], Nat.le_of_ble_eq_true rfl⟩) (fun ad => ⟨2, rfl⟩) ?_
  intro X _ hX hret
  have hcs : ((0 : Nat), (0 : Nat)).1 ≤ (sR X).cells ∧ ((0 : Nat), (0 : Nat)).2 ≤ (sR X).slots := ⟨Nat.zero_le _, Nat.zero_le _⟩
  generalize hcs0 : ((0 : Nat), (0 : Nat)) = cs at hcs hret ⊢
  unfold fX1_canRecompute at h
  show sW X 4 cs σ 0 [some (.ref (sad X 87)), some (.int l1), none, none] []
  refine s_aload_n hX dX1_canRecompute_0 rfl ?_
  refine s_iconst 0 hX dX1_canRecompute_1 (by decide) ?_
  obtain ⟨r1, hc, h⟩ := bn_some h
  refine s_callVI _ hX (cX1_liveAtBeginning_ok (sl X)  hc) SH_87 mv_RX1_76_1 (fun _ => rfl) (by decide) (Nat.le_of_ble_eq_true rfl) hcs dX1_canRecompute_2 rfl ?_
  refine s_iload_n hX dX1_canRecompute_5 rfl ?_
  obtain ⟨r2, hc, h⟩ := bn_some h
  refine s_callSI _ hX (cX9_has_ok (sl X)  hc) ms_RX1_72 (fun _ => rfl) (by decide) (Nat.le_of_ble_eq_true rfl) hcs dX1_canRecompute_6 rfl ?_
  refine jn_use (fun j => ∀ (v3 : Int32), j v3 = some r → sW X 4 cs σ 17 [some (.ref (sad X 87)), some (.int l1), none, none] [.int v3]) h ?_ ?_
  · intro v3 h
    refine s_istore_n hX dX1_canRecompute_17 (by decide) ?_
    refine s_iconst 0 hX dX1_canRecompute_18 (by decide) ?_
    refine s_istore_n hX dX1_canRecompute_19 (by decide) ?_
    obtain ⟨v5, hc, h⟩ := bn_some h
    refine s_mask [true, true, true, true] ?_
    refine pX1_canRecompute_20 hX hcs _ _ _ _ _ hc ?_
    refine s_iload_n hX dX1_canRecompute_51 rfl ?_
    refine s_iconst 1 hX dX1_canRecompute_52 (by decide) ?_
    refine s_ic_ne (tgt := 70) hX dX1_canRecompute_53 (by decide) (fun c8 => ?_) (fun c8 => ?_)
    · replace h := (if_neg c8).symm.trans h
      refine s_iconst 0 hX dX1_canRecompute_70 (by decide) ?_
      obtain rfl := rt1 h
      exact hret _ _ nz0 dX1_canRecompute_71
    · replace h := (if_pos c8).symm.trans h
      refine s_aload_n hX dX1_canRecompute_56 rfl ?_
      refine s_getR (r := 92) hX fo_RX1_24_1 SH_87 rfl dX1_canRecompute_57 ?_
      refine s_iload_n hX dX1_canRecompute_60 rfl ?_
      obtain ⟨c6, h⟩ := gd_some h
      refine s_iald hX SH_92 c6 dX1_canRecompute_61 ?_
      refine s_iconst 1 hX dX1_canRecompute_62 (by decide) ?_
      refine s_ic_ne (tgt := 70) hX dX1_canRecompute_63 (by decide) (fun c7 => ?_) (fun c7 => ?_)
      · replace h := (if_neg c7).symm.trans h
        refine s_iconst 0 hX dX1_canRecompute_70 (by decide) ?_
        obtain rfl := rt1 h
        exact hret _ _ nz0 dX1_canRecompute_71
      · replace h := (if_pos c7).symm.trans h
        refine s_iconst 1 hX dX1_canRecompute_66 (by decide) ?_
        refine s_goto (tgt := 71) hX dX1_canRecompute_67 (by decide) ?_
        obtain rfl := rt1 h
        exact hret _ _ nz1 dX1_canRecompute_71
  · intro j4 hj4 h
    refine s_if_eq (tgt := 16) hX dX1_canRecompute_9 (by decide) (fun c9 => ?_) (fun c9 => ?_)
    · replace h := (if_pos c9).symm.trans h
      refine s_iconst 0 hX dX1_canRecompute_16 (by decide) ?_
      refine s_mask [true, true, false, false] ?_
      exact hj4 _ h
    · replace h := (if_neg c9).symm.trans h
      refine s_iconst 1 hX dX1_canRecompute_12 (by decide) ?_
      refine s_goto (tgt := 17) hX dX1_canRecompute_13 (by decide) ?_
      refine s_mask [true, true, false, false] ?_
      exact hj4 _ h
def gX1_recomputingCost_4 (σ : Mm) (l1 : Int32) (rec : Int32 × Int32 → Option (Int32)) (x2 : Int32) (x3 : Int32) : Option (Int32) :=
  if (σ 1 2) ≤ x3 then
  some x2
else
  gd x3 8 <|
  bd (4 + 5 * x3.toNatClampNeg) fun k2 =>
  gd ((x3 * 12) + l1) 96 <|
  bd (x2 + ((σ k2 9) * (σ 89 ((x3 * 12) + l1).toNatClampNeg))) fun v4 =>
  bd (x3 + 1) fun v5 =>
  rec (v4, v5)
def qX1_recomputingCost_4 (σ : Mm) (l1 : Int32) : Nat → Int32 × Int32 → Option (Int32) := lp (fun rec s => gX1_recomputingCost_4 σ l1 rec s.1 s.2)
def fX1_recomputingCost (σ : Mm) (l1 : Int32) : Option Int32 :=
  (qX1_recomputingCost_4 σ l1 FU (0, 0)).bind fun v1 =>
  some v1
set_option maxHeartbeats 4000000 in
theorem pX1_recomputingCost_4 {X : sT} {cs : Nat × Nat} (hX : sX X cX1_recomputingCost RX1 4 0 0) (hcs : cs.1 ≤ (sR X).cells ∧ cs.2 ≤ (sR X).slots) (σ : Mm) (l1 : Int32)  : ∀ (n : Nat) (s : Int32 × Int32) (r : Int32), qX1_recomputingCost_4 σ l1 n s = some r → sW X 4 cs σ 48 [none, none, some (.int r), none] [] → sW X 4 cs σ 4 [some (.ref (sad X 87)), some (.int l1), some (.int s.1), some (.int s.2)] [] := by
  refine lp_ind (P := fun (s : Int32 × Int32) (r : Int32) => sW X 4 cs σ 48 [none, none, some (.int r), none] [] → sW X 4 cs σ 4 [some (.ref (sad X 87)), some (.int l1), some (.int s.1), some (.int s.2)] []) ?_
  intro rec hrec s r h0 hk
  obtain ⟨x2, x3⟩ := s
  have h : gX1_recomputingCost_4 σ l1 rec x2 x3 = some r := h0
  unfold gX1_recomputingCost_4 at h
  show sW X 4 cs σ 4 [some (.ref (sad X 87)), some (.int l1), some (.int x2), some (.int x3)] []
  refine s_iload_n hX dX1_recomputingCost_4 rfl ?_
  refine s_aload_n hX dX1_recomputingCost_5 rfl ?_
  refine s_getR (r := 1) hX fo_RX1_30_1 SH_87 rfl dX1_recomputingCost_6 ?_
  refine s_getI hX fo_RX1_49_6 SH_1 rfl dX1_recomputingCost_9 ?_
  refine s_ic_ge (tgt := 48) hX dX1_recomputingCost_12 (by decide) (fun c6 => ?_) (fun c6 => ?_)
  · replace h := (if_pos c6).symm.trans h
    obtain rfl := rt1 h
    refine s_mask [false, false, true, false] ?_
    exact hk
  · replace h := (if_neg c6).symm.trans h
    refine s_iload_n hX dX1_recomputingCost_15 rfl ?_
    refine s_aload_n hX dX1_recomputingCost_16 rfl ?_
    refine s_getR (r := 1) hX fo_RX1_30_1 SH_87 rfl dX1_recomputingCost_17 ?_
    refine s_getR (r := 2) hX fo_RX1_59_6 SH_1 rfl dX1_recomputingCost_20 ?_
    refine s_iload_n hX dX1_recomputingCost_23 rfl ?_
    obtain ⟨c1, h⟩ := gd_some h
    obtain ⟨k2, ek2, h⟩ := bd_some h
    have Bk2 : isB k2 := Or.inl ⟨_, vp_lt c1, ek2⟩
    refine s_aaldP hX c1 dX1_recomputingCost_24 ?_
    refine s_topr k2 ek2 ?_
    refine s_getI hX fo_RX1_124_0 (isB_0 Bk2) rfl dX1_recomputingCost_25 ?_
    refine s_aload_n hX dX1_recomputingCost_28 rfl ?_
    refine s_getR (r := 89) hX fo_RX1_15_1 SH_87 rfl dX1_recomputingCost_29 ?_
    refine s_iload_n hX dX1_recomputingCost_32 rfl ?_
    refine s_bipush 12 hX dX1_recomputingCost_33 (by decide) ?_
    refine s_imul hX dX1_recomputingCost_35 ?_
    refine s_iload_n hX dX1_recomputingCost_36 rfl ?_
    refine s_iadd hX dX1_recomputingCost_37 ?_
    obtain ⟨c3, h⟩ := gd_some h
    refine s_iald hX SH_89 c3 dX1_recomputingCost_38 ?_
    refine s_imul hX dX1_recomputingCost_39 ?_
    refine s_iadd hX dX1_recomputingCost_40 ?_
    obtain ⟨v4, ev4, h⟩ := bd_some h
    refine s_topi v4 ev4 ?_
    refine s_istore_n hX dX1_recomputingCost_41 (by decide) ?_
    obtain ⟨v5, ev5, h⟩ := bd_some h
    refine s_iinc v5 hX dX1_recomputingCost_42 rfl (by rw [ev5]; rfl) (by decide) ?_
    refine s_goto (tgt := 4) hX dX1_recomputingCost_45 (by decide) ?_
    refine s_mask [true, true, true, true] ?_
    exact hrec _ _ h hk
set_option maxHeartbeats 4000000 in
theorem cX1_recomputingCost_ok (l : Launch) {σ : Mm} {l1 : Int32} {r : Int32}  (h : fX1_recomputingCost σ l1 = some r) : cI l yX1_recomputingCost cX1_recomputingCost 4 .int 0 0 (fun ad => [.ref (ad 87), .int l1]) σ r σ := by
  refine c_enterI (fun ad => [some (.ref (ad 87)), some (.int l1), none, none]) (by decide) (fun ad => ⟨by simp [Value.category], Nat.le_of_ble_eq_true rfl⟩) (fun ad => ⟨2, rfl⟩) ?_
  intro X _ hX hret
  have hcs : ((0 : Nat), (0 : Nat)).1 ≤ (sR X).cells ∧ ((0 : Nat), (0 : Nat)).2 ≤ (sR X).slots := ⟨Nat.zero_le _, Nat.zero_le _⟩
  generalize hcs0 : ((0 : Nat), (0 : Nat)) = cs at hcs hret ⊢
  unfold fX1_recomputingCost at h
  show sW X 4 cs σ 0 [some (.ref (sad X 87)), some (.int l1), none, none] []
  refine s_iconst 0 hX dX1_recomputingCost_0 (by decide) ?_
  refine s_istore_n hX dX1_recomputingCost_1 (by decide) ?_
  refine s_iconst 0 hX dX1_recomputingCost_2 (by decide) ?_
  refine s_istore_n hX dX1_recomputingCost_3 (by decide) ?_
  obtain ⟨v1, hc, h⟩ := bn_some h
  refine s_mask [true, true, true, true] ?_
  refine pX1_recomputingCost_4 hX hcs _ _ _ _ _ hc ?_
  refine s_iload_n hX dX1_recomputingCost_48 rfl ?_
  obtain rfl := rt1 h
  exact hret _ _ (nzi _) dX1_recomputingCost_49
