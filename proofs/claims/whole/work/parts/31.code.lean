def gX5_gainOf_17 (σ : Mm) (l1 : Int32) (l2 : Int32) (l4 : Int32) (rec : Int32 × Int32 → Option (Int32)) (x3 : Int32) (x5 : Int32) : Option (Int32) :=
  if (σ 1 2) ≤ x5 then
  some x3
else
  (fX2_contains σ l2 x5).bind fun r1 =>
  if r1 = 0 then
  (fX5_loadsOnEdge σ x5 l1 l2).bind fun r13 =>
  if r13 = 0 then
  bd (x3 - 0) fun v14 =>
  bd (x5 + 1) fun v15 =>
  rec (v14, v15)
else
  gd x5 8 <|
  bd (4 + 5 * x5.toNatClampNeg) fun k17 =>
  bd (x3 - (σ k17 9)) fun v18 =>
  bd (x5 + 1) fun v19 =>
  rec (v18, v19)
else
  (fX1_mentionWeight σ x5 l1).bind fun r2 =>
  bd (x3 + r2) fun v3 =>
  if l4 = 0 then
  bd (x5 + 1) fun v4 =>
  rec (v3, v4)
else
  (fX5_isLiveOutside σ x5 l1 l2).bind fun r5 =>
  if r5 = 0 then
  bd (x5 + 1) fun v6 =>
  rec (v3, v6)
else
  gd x5 8 <|
  bd (4 + 5 * x5.toNatClampNeg) fun k8 =>
  bd (v3 - (σ k8 9)) fun v9 =>
  bd (x5 + 1) fun v10 =>
  rec (v9, v10)
def qX5_gainOf_17 (σ : Mm) (l1 : Int32) (l2 : Int32) (l4 : Int32) : Nat → Int32 × Int32 → Option (Int32) := lp (fun rec s => gX5_gainOf_17 σ l1 l2 l4 rec s.1 s.2)
def fX5_gainOf (σ : Mm) (l1 : Int32) (l2 : Int32) : Option Int32 :=
  gd l2 8 <|
  (fX9_has σ (σ 103 l2.toNatClampNeg) l1).bind fun r2 =>
  (qX5_gainOf_17 σ l1 l2 r2 FU (0, 0)).bind fun v3 =>
  some (3 * v3)
set_option maxHeartbeats 4000000 in
theorem pX5_gainOf_17 {X : sT} {cs : Nat × Nat} (hX : sX X cX5_gainOf RX5 6 2 46) (hcs : cs.1 ≤ (sR X).cells ∧ cs.2 ≤ (sR X).slots) (σ : Mm) (l1 : Int32) (l2 : Int32) (l4 : Int32)  : ∀ (n : Nat) (s : Int32 × Int32) (r : Int32), qX5_gainOf_17 σ l1 l2 l4 n s = some r → sW X 6 cs σ 127 [none, none, none, some (.int r), none, none] [] → sW X 6 cs σ 17 [some (.ref (sad X 97)), some (.int l1), some (.int l2), some (.int s.1), some (.int l4), some (.int s.2)] [] := by
  refine lp_ind (P := fun (s : Int32 × Int32) (r : Int32) => sW X 6 cs σ 127 [none, none, none, some (.int r), none, none] [] → sW X 6 cs σ 17 [some (.ref (sad X 97)), some (.int l1), some (.int l2), some (.int s.1), some (.int l4), some (.int s.2)] []) ?_
  intro rec hrec s r h0 hk
  obtain ⟨x3, x5⟩ := s
  have h : gX5_gainOf_17 σ l1 l2 l4 rec x3 x5 = some r := h0
  unfold gX5_gainOf_17 at h
  show sW X 6 cs σ 17 [some (.ref (sad X 97)), some (.int l1), some (.int l2), some (.int x3), some (.int l4), some (.int x5)] []
  refine s_iload hX dX5_gainOf_17 rfl ?_
  refine s_aload_n hX dX5_gainOf_19 rfl ?_
  refine s_getR (r := 1) hX fo_RX5_30_4 SH_97 rfl dX5_gainOf_20 ?_
  refine s_getI hX fo_RX5_119_6 SH_1 rfl dX5_gainOf_23 ?_
  refine s_ic_ge (tgt := 127) hX dX5_gainOf_26 (by decide) (fun c22 => ?_) (fun c22 => ?_)
  · replace h := (if_pos c22).symm.trans h
    obtain rfl := rt1 h
    refine s_mask [false, false, false, true, false, false] ?_
    exact hk
  · replace h := (if_neg c22).symm.trans h
    refine s_aload_n hX dX5_gainOf_29 rfl ?_
    refine s_getR (r := 94) hX fo_RX5_38_4 SH_97 rfl dX5_gainOf_30 ?_
    refine s_iload_n hX dX5_gainOf_33 rfl ?_
    refine s_iload hX dX5_gainOf_34 rfl ?_
    obtain ⟨r1, hc, h⟩ := bn_some h
    refine s_callVI _ hX (cX2_contains_ok (sl X)  hc) SH_94 mv_RX5_124_2 (fun _ => rfl) (by decide) (Nat.le_of_ble_eq_true rfl) hcs dX5_gainOf_36 rfl ?_
    refine s_if_ne (tgt := 76) hX dX5_gainOf_39 (by decide) (fun c21 => ?_) (fun c21 => ?_)
    · replace h := (if_neg c21).symm.trans h
      refine s_iload_n hX dX5_gainOf_76 rfl ?_
      refine s_aload_n hX dX5_gainOf_77 rfl ?_
      refine s_getR (r := 87) hX fo_RX5_34_4 SH_97 rfl dX5_gainOf_78 ?_
      refine s_iload hX dX5_gainOf_81 rfl ?_
      refine s_iload_n hX dX5_gainOf_83 rfl ?_
      obtain ⟨r2, hc, h⟩ := bn_some h
      refine s_callVI _ hX (cX1_mentionWeight_ok (sl X)  hc) SH_87 mv_RX5_180_1 (fun _ => rfl) (by decide) (Nat.le_of_ble_eq_true rfl) hcs dX5_gainOf_84 rfl ?_
      refine s_iadd hX dX5_gainOf_87 ?_
      obtain ⟨v3, ev3, h⟩ := bd_some h
      refine s_topi v3 ev3 ?_
      refine s_istore_n hX dX5_gainOf_88 (by decide) ?_
      refine s_iload hX dX5_gainOf_89 rfl ?_
      refine s_if_eq (tgt := 121) hX dX5_gainOf_91 (by decide) (fun c12 => ?_) (fun c12 => ?_)
      · replace h := (if_pos c12).symm.trans h
        obtain ⟨v4, ev4, h⟩ := bd_some h
        refine s_iinc v4 hX dX5_gainOf_121 rfl (by rw [ev4]; rfl) (by decide) ?_
        refine s_goto (tgt := 17) hX dX5_gainOf_124 (by decide) ?_
        refine s_mask [true, true, true, true, true, true] ?_
        exact hrec _ _ h hk
      · replace h := (if_neg c12).symm.trans h
        refine s_aload_n hX dX5_gainOf_94 rfl ?_
        refine s_iload hX dX5_gainOf_95 rfl ?_
        refine s_iload_n hX dX5_gainOf_97 rfl ?_
        refine s_iload_n hX dX5_gainOf_98 rfl ?_
        obtain ⟨r5, hc, h⟩ := bn_some h
        refine s_callVI _ hX (cX5_isLiveOutside_ok (sl X)  hc) SH_97 mv_RX5_183_4 (fun _ => rfl) (by decide) (Nat.le_of_ble_eq_true rfl) hcs dX5_gainOf_99 rfl ?_
        refine s_if_eq (tgt := 121) hX dX5_gainOf_102 (by decide) (fun c11 => ?_) (fun c11 => ?_)
        · replace h := (if_pos c11).symm.trans h
          obtain ⟨v6, ev6, h⟩ := bd_some h
          refine s_iinc v6 hX dX5_gainOf_121 rfl (by rw [ev6]; rfl) (by decide) ?_
          refine s_goto (tgt := 17) hX dX5_gainOf_124 (by decide) ?_
          refine s_mask [true, true, true, true, true, true] ?_
          exact hrec _ _ h hk
        · replace h := (if_neg c11).symm.trans h
          refine s_iload_n hX dX5_gainOf_105 rfl ?_
          refine s_aload_n hX dX5_gainOf_106 rfl ?_
          refine s_getR (r := 1) hX fo_RX5_30_4 SH_97 rfl dX5_gainOf_107 ?_
          refine s_getR (r := 2) hX fo_RX5_151_6 SH_1 rfl dX5_gainOf_110 ?_
          refine s_iload hX dX5_gainOf_113 rfl ?_
          obtain ⟨c7, h⟩ := gd_some h
          obtain ⟨k8, ek8, h⟩ := bd_some h
          have Bk8 : isB k8 := Or.inl ⟨_, vp_lt c7, ek8⟩
          refine s_aaldP hX c7 dX5_gainOf_115 ?_
          refine s_topr k8 ek8 ?_
          refine s_getI hX fo_RX5_158_0 (isB_0 Bk8) rfl dX5_gainOf_116 ?_
          refine s_isub hX dX5_gainOf_119 ?_
          obtain ⟨v9, ev9, h⟩ := bd_some h
          refine s_topi v9 ev9 ?_
          refine s_istore_n hX dX5_gainOf_120 (by decide) ?_
          obtain ⟨v10, ev10, h⟩ := bd_some h
          refine s_iinc v10 hX dX5_gainOf_121 rfl (by rw [ev10]; rfl) (by decide) ?_
          refine s_goto (tgt := 17) hX dX5_gainOf_124 (by decide) ?_
          refine s_mask [true, true, true, true, true, true] ?_
          exact hrec _ _ h hk
    · replace h := (if_pos c21).symm.trans h
      refine s_iload_n hX dX5_gainOf_42 rfl ?_
      refine s_aload_n hX dX5_gainOf_43 rfl ?_
      refine s_iload hX dX5_gainOf_44 rfl ?_
      refine s_iload_n hX dX5_gainOf_46 rfl ?_
      refine s_iload_n hX dX5_gainOf_47 rfl ?_
      obtain ⟨r13, hc, h⟩ := bn_some h
      refine s_callVI _ hX (cX5_loadsOnEdge_ok (sl X)  hc) SH_97 mv_RX5_176_4 (fun _ => rfl) (by decide) (Nat.le_of_ble_eq_true rfl) hcs dX5_gainOf_48 rfl ?_
      refine s_if_eq (tgt := 70) hX dX5_gainOf_51 (by decide) (fun c20 => ?_) (fun c20 => ?_)
      · replace h := (if_pos c20).symm.trans h
        refine s_iconst 0 hX dX5_gainOf_70 (by decide) ?_
        refine s_isub hX dX5_gainOf_71 ?_
        obtain ⟨v14, ev14, h⟩ := bd_some h
        refine s_topi v14 ev14 ?_
        refine s_istore_n hX dX5_gainOf_72 (by decide) ?_
        refine s_goto (tgt := 121) hX dX5_gainOf_73 (by decide) ?_
        obtain ⟨v15, ev15, h⟩ := bd_some h
        refine s_iinc v15 hX dX5_gainOf_121 rfl (by rw [ev15]; rfl) (by decide) ?_
        refine s_goto (tgt := 17) hX dX5_gainOf_124 (by decide) ?_
        refine s_mask [true, true, true, true, true, true] ?_
        exact hrec _ _ h hk
      · replace h := (if_neg c20).symm.trans h
        refine s_aload_n hX dX5_gainOf_54 rfl ?_
        refine s_getR (r := 1) hX fo_RX5_30_4 SH_97 rfl dX5_gainOf_55 ?_
        refine s_getR (r := 2) hX fo_RX5_151_6 SH_1 rfl dX5_gainOf_58 ?_
        refine s_iload hX dX5_gainOf_61 rfl ?_
        obtain ⟨c16, h⟩ := gd_some h
        obtain ⟨k17, ek17, h⟩ := bd_some h
        have Bk17 : isB k17 := Or.inl ⟨_, vp_lt c16, ek17⟩
        refine s_aaldP hX c16 dX5_gainOf_63 ?_
        refine s_topr k17 ek17 ?_
        refine s_getI hX fo_RX5_158_0 (isB_0 Bk17) rfl dX5_gainOf_64 ?_
        refine s_goto (tgt := 71) hX dX5_gainOf_67 (by decide) ?_
        refine s_isub hX dX5_gainOf_71 ?_
        obtain ⟨v18, ev18, h⟩ := bd_some h
        refine s_topi v18 ev18 ?_
        refine s_istore_n hX dX5_gainOf_72 (by decide) ?_
        refine s_goto (tgt := 121) hX dX5_gainOf_73 (by decide) ?_
        obtain ⟨v19, ev19, h⟩ := bd_some h
        refine s_iinc v19 hX dX5_gainOf_121 rfl (by rw [ev19]; rfl) (by decide) ?_
        refine s_goto (tgt := 17) hX dX5_gainOf_124 (by decide) ?_
        refine s_mask [true, true, true, true, true, true] ?_
        exact hrec _ _ h hk
set_option maxHeartbeats 4000000 in
theorem cX5_gainOf_ok (l : Launch) {σ : Mm} {l1 : Int32} {l2 : Int32} {r : Int32}  (h : fX5_gainOf σ l1 l2 = some r) : cI l yX5_gainOf cX5_gainOf 6 .int 2 46 (fun ad => [.ref (ad 97), .int l1, .int l2]) σ r σ := by
  refine c_enterI (fun ad => [some (.ref (ad 97)), some (.int l1), some (.int l2), none, none, none]) (by decide) (fun ad => ⟨by simp [Value.category], Nat.le_of_ble_eq_true rfl⟩) (fun ad => ⟨3, rfl⟩) ?_
  intro X _ hX hret
  have hcs : ((0 : Nat), (0 : Nat)).1 ≤ (sR X).cells ∧ ((0 : Nat), (0 : Nat)).2 ≤ (sR X).slots := ⟨Nat.zero_le _, Nat.zero_le _⟩
  generalize hcs0 : ((0 : Nat), (0 : Nat)) = cs at hcs hret ⊢
  unfold fX5_gainOf at h
  show sW X 6 cs σ 0 [some (.ref (sad X 97)), some (.int l1), some (.int l2), none, none, none] []
  refine s_iconst 0 hX dX5_gainOf_0 (by decide) ?_
  refine s_istore_n hX dX5_gainOf_1 (by decide) ?_
  refine s_aload_n hX dX5_gainOf_2 rfl ?_
  refine s_getR (r := 103) hX fo_RX5_27_4 SH_97 rfl dX5_gainOf_3 ?_
  refine s_iload_n hX dX5_gainOf_6 rfl ?_
  obtain ⟨c1, h⟩ := gd_some h
  refine s_iald hX SH_103 c1 dX5_gainOf_7 ?_
  refine s_iload_n hX dX5_gainOf_8 rfl ?_
  obtain ⟨r2, hc, h⟩ := bn_some h
  refine s_callSI _ hX (cX9_has_ok (sl X)  hc) ms_RX5_83 (fun _ => rfl) (by decide) (Nat.le_of_ble_eq_true rfl) hcs dX5_gainOf_9 rfl ?_
  refine s_istore hX dX5_gainOf_12 (by decide) ?_
  refine s_iconst 0 hX dX5_gainOf_14 (by decide) ?_
  refine s_istore hX dX5_gainOf_15 (by decide) ?_
  obtain ⟨v3, hc, h⟩ := bn_some h
  refine s_mask [true, true, true, true, true, true] ?_
  refine pX5_gainOf_17 hX hcs _ _ _ _ _ _ _ hc ?_
  refine s_iconst 3 hX dX5_gainOf_127 (by decide) ?_
  refine s_iload_n hX dX5_gainOf_128 rfl ?_
  refine s_imul hX dX5_gainOf_129 ?_
  obtain rfl := rt1 h
  exact hret _ _ (nzi _) dX5_gainOf_130
def gX5_isPromotedAround_2 (σ : Mm) (l1 : Int32) (l2 : Int32) (rec : Int32 → Option (Int32 ⊕ (Unit))) (x3 : Int32) : Option (Int32 ⊕ (Unit)) :=
  if (σ 94 3) ≤ x3 then
  some (.inr ())
else
  gd ((x3 * 12) + l1) 96 <|
  if (σ 101 ((x3 * 12) + l1).toNatClampNeg) = (-1) then
  bd (x3 + 1) fun v2 =>
  rec v2
else
  (fX2_isWithin σ x3 l2).bind fun r3 =>
  if r3 = 0 then
  (fX2_isWithin σ l2 x3).bind fun r4 =>
  if r4 = 0 then
  bd (x3 + 1) fun v5 =>
  rec v5
else
  some (.inl 1)
else
  some (.inl 1)
def qX5_isPromotedAround_2 (σ : Mm) (l1 : Int32) (l2 : Int32) : Nat → Int32 → Option (Int32 ⊕ (Unit)) := lp (fun rec s => gX5_isPromotedAround_2 σ l1 l2 rec s)
def fX5_isPromotedAround (σ : Mm) (l1 : Int32) (l2 : Int32) : Option Int32 :=
  bns (qX5_isPromotedAround_2 σ l1 l2 FU 0) (fun u => some u) (fun _ => some 0)
set_option maxHeartbeats 4000000 in
theorem pX5_isPromotedAround_2 {X : sT} {cs : Nat × Nat} (hX : sX X cX5_isPromotedAround RX5 4 1 22) (hcs : cs.1 ≤ (sR X).cells ∧ cs.2 ≤ (sR X).slots) (σ : Mm) (l1 : Int32) (l2 : Int32)  : ∀ (n : Nat) (s : Int32) (r : Int32 ⊕ (Unit)), qX5_isPromotedAround_2 σ l1 l2 n s = some r → (∀ u, r = .inr u → sW X 4 cs σ 60 [none, none, none, none] []) → (∀ u, r = .inl u → ∀ pc L, narrow .boolean (.int u) = .int u → decode cX5_isPromotedAround pc = .ok (.ireturn, 1) → sW X 4 cs σ pc L [.int u]) → sW X 4 cs σ 2 [some (.ref (sad X 97)), some (.int l1), some (.int l2), some (.int s)] [] := by
  refine lp_ind (P := fun (s : Int32) (r : Int32 ⊕ (Unit)) => (∀ u, r = .inr u → sW X 4 cs σ 60 [none, none, none, none] []) → (∀ u, r = .inl u → ∀ pc L, narrow .boolean (.int u) = .int u → decode cX5_isPromotedAround pc = .ok (.ireturn, 1) → sW X 4 cs σ pc L [.int u]) → sW X 4 cs σ 2 [some (.ref (sad X 97)), some (.int l1), some (.int l2), some (.int s)] []) ?_
  intro rec hrec s r h0 hk hr
  obtain ⟨x3, e0⟩ : ∃ z, z = s := ⟨s, rfl⟩
  subst e0
  have h : gX5_isPromotedAround_2 σ l1 l2 rec x3 = some r := h0
  unfold gX5_isPromotedAround_2 at h
  show sW X 4 cs σ 2 [some (.ref (sad X 97)), some (.int l1), some (.int l2), some (.int x3)] []
  refine s_iload_n hX dX5_isPromotedAround_2 rfl ?_
  refine s_aload_n hX dX5_isPromotedAround_3 rfl ?_
  refine s_getR (r := 94) hX fo_RX5_38_4 SH_97 rfl dX5_isPromotedAround_4 ?_
  refine s_getI hX fo_RX5_114_2 SH_94 rfl dX5_isPromotedAround_7 ?_
  refine s_ic_ge (tgt := 60) hX dX5_isPromotedAround_10 (by decide) (fun c9 => ?_) (fun c9 => ?_)
  · replace h := (if_pos c9).symm.trans h
    obtain rfl := rt1 h
    refine s_mask [false, false, false, false] ?_
    exact hk _ rfl
  · replace h := (if_neg c9).symm.trans h
    refine s_aload_n hX dX5_isPromotedAround_13 rfl ?_
    refine s_getR (r := 101) hX fo_RX5_21_4 SH_97 rfl dX5_isPromotedAround_14 ?_
    refine s_iload_n hX dX5_isPromotedAround_17 rfl ?_
    refine s_bipush 12 hX dX5_isPromotedAround_18 (by decide) ?_
    refine s_imul hX dX5_isPromotedAround_20 ?_
    refine s_iload_n hX dX5_isPromotedAround_21 rfl ?_
    refine s_iadd hX dX5_isPromotedAround_22 ?_
    obtain ⟨c1, h⟩ := gd_some h
    refine s_iald hX SH_101 c1 dX5_isPromotedAround_23 ?_
    refine s_iconst (-1) hX dX5_isPromotedAround_24 (by decide) ?_
    refine s_ic_eq (tgt := 54) hX dX5_isPromotedAround_25 (by decide) (fun c8 => ?_) (fun c8 => ?_)
    · replace h := (if_pos c8).symm.trans h
      obtain ⟨v2, ev2, h⟩ := bd_some h
      refine s_iinc v2 hX dX5_isPromotedAround_54 rfl (by rw [ev2]; rfl) (by decide) ?_
      refine s_goto (tgt := 2) hX dX5_isPromotedAround_57 (by decide) ?_
      refine s_mask [true, true, true, true] ?_
      exact hrec _ _ h hk hr
    · replace h := (if_neg c8).symm.trans h
      refine s_aload_n hX dX5_isPromotedAround_28 rfl ?_
      refine s_getR (r := 94) hX fo_RX5_38_4 SH_97 rfl dX5_isPromotedAround_29 ?_
      refine s_iload_n hX dX5_isPromotedAround_32 rfl ?_
      refine s_iload_n hX dX5_isPromotedAround_33 rfl ?_
      obtain ⟨r3, hc, h⟩ := bn_some h
      refine s_callVI _ hX (cX2_isWithin_ok (sl X)  hc) SH_94 mv_RX5_192_2 (fun _ => rfl) (by decide) (Nat.le_of_ble_eq_true rfl) hcs dX5_isPromotedAround_34 rfl ?_
      refine s_if_ne (tgt := 52) hX dX5_isPromotedAround_37 (by decide) (fun c7 => ?_) (fun c7 => ?_)
      · replace h := (if_neg c7).symm.trans h
        refine s_iconst 1 hX dX5_isPromotedAround_52 (by decide) ?_
        obtain rfl := rt1 h
        exact hr _ rfl _ _ nz1 dX5_isPromotedAround_53
      · replace h := (if_pos c7).symm.trans h
        refine s_aload_n hX dX5_isPromotedAround_40 rfl ?_
        refine s_getR (r := 94) hX fo_RX5_38_4 SH_97 rfl dX5_isPromotedAround_41 ?_
        refine s_iload_n hX dX5_isPromotedAround_44 rfl ?_
        refine s_iload_n hX dX5_isPromotedAround_45 rfl ?_
        obtain ⟨r4, hc, h⟩ := bn_some h
        refine s_callVI _ hX (cX2_isWithin_ok (sl X)  hc) SH_94 mv_RX5_192_2 (fun _ => rfl) (by decide) (Nat.le_of_ble_eq_true rfl) hcs dX5_isPromotedAround_46 rfl ?_
        refine s_if_eq (tgt := 54) hX dX5_isPromotedAround_49 (by decide) (fun c6 => ?_) (fun c6 => ?_)
        · replace h := (if_pos c6).symm.trans h
          obtain ⟨v5, ev5, h⟩ := bd_some h
          refine s_iinc v5 hX dX5_isPromotedAround_54 rfl (by rw [ev5]; rfl) (by decide) ?_
          refine s_goto (tgt := 2) hX dX5_isPromotedAround_57 (by decide) ?_
          refine s_mask [true, true, true, true] ?_
          exact hrec _ _ h hk hr
        · replace h := (if_neg c6).symm.trans h
          refine s_iconst 1 hX dX5_isPromotedAround_52 (by decide) ?_
          obtain rfl := rt1 h
          exact hr _ rfl _ _ nz1 dX5_isPromotedAround_53
set_option maxHeartbeats 4000000 in
theorem cX5_isPromotedAround_ok (l : Launch) {σ : Mm} {l1 : Int32} {l2 : Int32} {r : Int32}  (h : fX5_isPromotedAround σ l1 l2 = some r) : cI l yX5_isPromotedAround cX5_isPromotedAround 4 .boolean 1 22 (fun ad => [.ref (ad 97), .int l1, .int l2]) σ r σ := by
  refine c_enterI (fun ad => [some (.ref (ad 97)), some (.int l1), some (.int l2), none]) (by decide) (fun ad => ⟨by simp [Value.category], Nat.le_of_ble_eq_true rfl⟩) (fun ad => ⟨1, rfl⟩) ?_
  intro X _ hX hret
  have hcs : ((0 : Nat), (0 : Nat)).1 ≤ (sR X).cells ∧ ((0 : Nat), (0 : Nat)).2 ≤ (sR X).slots := ⟨Nat.zero_le _, Nat.zero_le _⟩
  generalize hcs0 : ((0 : Nat), (0 : Nat)) = cs at hcs hret ⊢
  unfold fX5_isPromotedAround at h
  show sW X 4 cs σ 0 [some (.ref (sad X 97)), some (.int l1), some (.int l2), none] []
  refine s_iconst 0 hX dX5_isPromotedAround_0 (by decide) ?_
  refine s_istore_n hX dX5_isPromotedAround_1 (by decide) ?_
  refine s_mask [true, true, true, true] ?_
  rcases bns_some h with ⟨u, hc, h⟩ | ⟨u, hc, h⟩
  · cases h
    exact pX5_isPromotedAround_2 hX hcs _ _ _ _ _ _ hc (fun _ e => nomatch e) (fun w e pc L nn d => by cases e; exact hret pc L nn d)
  · refine pX5_isPromotedAround_2 hX hcs _ _ _ _ _ _ hc (fun w e => ?_) (fun w e => nomatch e)
    cases e
    refine s_iconst 0 hX dX5_isPromotedAround_60 (by decide) ?_
    obtain rfl := rt1 h
    exact hret _ _ nz0 dX5_isPromotedAround_61
def gX5_coloursOf_25 (σ : Mm) (l1 : Int32) (l2 : Int32) (rec : Int32 × Int32 → Option (Int32)) (x3 : Int32) (x4 : Int32) : Option (Int32) :=
  if (σ 94 3) ≤ x4 then
  some x3
else
  gd ((x4 * 12) + l1) 96 <|
  bd (σ 101 ((x4 * 12) + l1).toNatClampNeg) fun v2 =>
  if v2 = (-1) then
  bd (x4 + 1) fun v3 =>
  rec (x3, v3)
else
  gd x4 8 <|
  if ((σ 96 x4.toNatClampNeg) &&& l2) = 0 then
  bd (x4 + 1) fun v5 =>
  rec (x3, v5)
else
  bd (x3 ||| (1 <<< (v2 &&& 31))) fun v6 =>
  bd (x4 + 1) fun v7 =>
  rec (v6, v7)
def qX5_coloursOf_25 (σ : Mm) (l1 : Int32) (l2 : Int32) : Nat → Int32 × Int32 → Option (Int32) := lp (fun rec s => gX5_coloursOf_25 σ l1 l2 rec s.1 s.2)
def fX5_coloursOf (σ : Mm) (l1 : Int32) (l2 : Int32) : Option Int32 :=
  gd l1 12 <|
  jn (fun (v2 : Int32) => (qX5_coloursOf_25 σ l1 l2 FU (v2, 0)).bind fun v4 =>
  some v4) fun j3 =>
  if (σ 98 l1.toNatClampNeg) = 0 then
  gd l1 12 <|
  j3 (1 <<< ((σ 99 l1.toNatClampNeg) &&& 31))
else
  j3 0
set_option maxHeartbeats 4000000 in
theorem pX5_coloursOf_25 {X : sT} {cs : Nat × Nat} (hX : sX X cX5_coloursOf RX5 6 0 0) (hcs : cs.1 ≤ (sR X).cells ∧ cs.2 ≤ (sR X).slots) (σ : Mm) (l1 : Int32) (l2 : Int32)  : ∀ (n : Nat) (s : Int32 × Int32) (r : Int32), qX5_coloursOf_25 σ l1 l2 n s = some r → sW X 6 cs σ 85 [none, none, none, some (.int r), none, none] [] → sW X 6 cs σ 25 [some (.ref (sad X 97)), some (.int l1), some (.int l2), some (.int s.1), some (.int s.2), none] [] := by
  refine lp_ind (P := fun (s : Int32 × Int32) (r : Int32) => sW X 6 cs σ 85 [none, none, none, some (.int r), none, none] [] → sW X 6 cs σ 25 [some (.ref (sad X 97)), some (.int l1), some (.int l2), some (.int s.1), some (.int s.2), none] []) ?_
  intro rec hrec s r h0 hk
  obtain ⟨x3, x4⟩ := s
  have h : gX5_coloursOf_25 σ l1 l2 rec x3 x4 = some r := h0
  unfold gX5_coloursOf_25 at h
  show sW X 6 cs σ 25 [some (.ref (sad X 97)), some (.int l1), some (.int l2), some (.int x3), some (.int x4), none] []
  refine s_iload hX dX5_coloursOf_25 rfl ?_
  refine s_aload_n hX dX5_coloursOf_27 rfl ?_
  refine s_getR (r := 94) hX fo_RX5_38_4 SH_97 rfl dX5_coloursOf_28 ?_
  refine s_getI hX fo_RX5_114_2 SH_94 rfl dX5_coloursOf_31 ?_
  refine s_ic_ge (tgt := 85) hX dX5_coloursOf_34 (by decide) (fun c10 => ?_) (fun c10 => ?_)
  · replace h := (if_pos c10).symm.trans h
    obtain rfl := rt1 h
    refine s_mask [false, false, false, true, false, false] ?_
    exact hk
  · replace h := (if_neg c10).symm.trans h
    refine s_aload_n hX dX5_coloursOf_37 rfl ?_
    refine s_getR (r := 101) hX fo_RX5_21_4 SH_97 rfl dX5_coloursOf_38 ?_
    refine s_iload hX dX5_coloursOf_41 rfl ?_
    refine s_bipush 12 hX dX5_coloursOf_43 (by decide) ?_
    refine s_imul hX dX5_coloursOf_45 ?_
    refine s_iload_n hX dX5_coloursOf_46 rfl ?_
    refine s_iadd hX dX5_coloursOf_47 ?_
    obtain ⟨c1, h⟩ := gd_some h
    refine s_iald hX SH_101 c1 dX5_coloursOf_48 ?_
    obtain ⟨v2, ev2, h⟩ := bd_some h
    refine s_topi v2 ev2 ?_
    refine s_istore hX dX5_coloursOf_49 (by decide) ?_
    refine s_iload hX dX5_coloursOf_51 rfl ?_
    refine s_iconst (-1) hX dX5_coloursOf_53 (by decide) ?_
    refine s_ic_eq (tgt := 79) hX dX5_coloursOf_54 (by decide) (fun c9 => ?_) (fun c9 => ?_)
    · replace h := (if_pos c9).symm.trans h
      obtain ⟨v3, ev3, h⟩ := bd_some h
      refine s_iinc v3 hX dX5_coloursOf_79 rfl (by rw [ev3]; rfl) (by decide) ?_
      refine s_goto (tgt := 25) hX dX5_coloursOf_82 (by decide) ?_
      refine s_mask [true, true, true, true, true, false] ?_
      exact hrec _ _ h hk
    · replace h := (if_neg c9).symm.trans h
      refine s_aload_n hX dX5_coloursOf_57 rfl ?_
      refine s_getR (r := 94) hX fo_RX5_38_4 SH_97 rfl dX5_coloursOf_58 ?_
      refine s_getR (r := 96) hX fo_RX5_189_2 SH_94 rfl dX5_coloursOf_61 ?_
      refine s_iload hX dX5_coloursOf_64 rfl ?_
      obtain ⟨c4, h⟩ := gd_some h
      refine s_iald hX SH_96 c4 dX5_coloursOf_66 ?_
      refine s_iload_n hX dX5_coloursOf_67 rfl ?_
      refine s_iand hX dX5_coloursOf_68 ?_
      refine s_if_eq (tgt := 79) hX dX5_coloursOf_69 (by decide) (fun c8 => ?_) (fun c8 => ?_)
      · replace h := (if_pos c8).symm.trans h
        obtain ⟨v5, ev5, h⟩ := bd_some h
        refine s_iinc v5 hX dX5_coloursOf_79 rfl (by rw [ev5]; rfl) (by decide) ?_
        refine s_goto (tgt := 25) hX dX5_coloursOf_82 (by decide) ?_
        refine s_mask [true, true, true, true, true, false] ?_
        exact hrec _ _ h hk
      · replace h := (if_neg c8).symm.trans h
        refine s_iload_n hX dX5_coloursOf_72 rfl ?_
        refine s_iconst 1 hX dX5_coloursOf_73 (by decide) ?_
        refine s_iload hX dX5_coloursOf_74 rfl ?_
        refine s_ishl hX dX5_coloursOf_76 ?_
        refine s_ior hX dX5_coloursOf_77 ?_
        obtain ⟨v6, ev6, h⟩ := bd_some h
        refine s_topi v6 ev6 ?_
        refine s_istore_n hX dX5_coloursOf_78 (by decide) ?_
        obtain ⟨v7, ev7, h⟩ := bd_some h
        refine s_iinc v7 hX dX5_coloursOf_79 rfl (by rw [ev7]; rfl) (by decide) ?_
        refine s_goto (tgt := 25) hX dX5_coloursOf_82 (by decide) ?_
        refine s_mask [true, true, true, true, true, false] ?_
        exact hrec _ _ h hk
set_option maxHeartbeats 4000000 in
theorem cX5_coloursOf_ok (l : Launch) {σ : Mm} {l1 : Int32} {l2 : Int32} {r : Int32}  (h : fX5_coloursOf σ l1 l2 = some r) : cI l yX5_coloursOf cX5_coloursOf 6 .int 0 0 (fun ad => [.ref (ad 97), .int l1, .int l2]) σ r σ := by
  refine c_enterI (fun ad => [some (.ref (ad 97)), some (.int l1), some (.int l2), none, none, none]) (by decide) (fun ad => ⟨by simp [Value.category], Nat.le_of_ble_eq_true rfl⟩) (fun ad => ⟨3, rfl⟩) ?_
  intro X _ hX hret
  have hcs : ((0 : Nat), (0 : Nat)).1 ≤ (sR X).cells ∧ ((0 : Nat), (0 : Nat)).2 ≤ (sR X).slots := ⟨Nat.zero_le _, Nat.zero_le _⟩
  generalize hcs0 : ((0 : Nat), (0 : Nat)) = cs at hcs hret ⊢
  unfold fX5_coloursOf at h
  show sW X 6 cs σ 0 [some (.ref (sad X 97)), some (.int l1), some (.int l2), none, none, none] []
  refine s_aload_n hX dX5_coloursOf_0 rfl ?_
  refine s_getR (r := 98) hX fo_RX5_9_4 SH_97 rfl dX5_coloursOf_1 ?_
  refine s_iload_n hX dX5_coloursOf_4 rfl ?_
  obtain ⟨c1, h⟩ := gd_some h
  refine s_iald hX SH_98 c1 dX5_coloursOf_5 ?_
  refine jn_use (fun j => ∀ (v2 : Int32), j v2 = some r → sW X 6 cs σ 21 [some (.ref (sad X 97)), some (.int l1), some (.int l2), none, none, none] [.int v2]) h ?_ ?_
  · intro v2 h
    refine s_istore_n hX dX5_coloursOf_21 (by decide) ?_
    refine s_iconst 0 hX dX5_coloursOf_22 (by decide) ?_
    refine s_istore hX dX5_coloursOf_23 (by decide) ?_
    obtain ⟨v4, hc, h⟩ := bn_some h
    refine s_mask [true, true, true, true, true, false] ?_
    refine pX5_coloursOf_25 hX hcs _ _ _ _ _ _ hc ?_
    refine s_iload_n hX dX5_coloursOf_85 rfl ?_
    obtain rfl := rt1 h
    exact hret _ _ (nzi _) dX5_coloursOf_86
  · intro j3 hj3 h
    refine s_if_ne (tgt := 20) hX dX5_coloursOf_6 (by decide) (fun c6 => ?_) (fun c6 => ?_)
    · replace h := (if_neg c6).symm.trans h
      refine s_iconst 0 hX dX5_coloursOf_20 (by decide) ?_
      refine s_mask [true, true, true, false, false, false] ?_
      exact hj3 _ h
    · replace h := (if_pos c6).symm.trans h
      refine s_iconst 1 hX dX5_coloursOf_9 (by decide) ?_
      refine s_aload_n hX dX5_coloursOf_10 rfl ?_
      refine s_getR (r := 99) hX fo_RX5_15_4 SH_97 rfl dX5_coloursOf_11 ?_
      refine s_iload_n hX dX5_coloursOf_14 rfl ?_
      obtain ⟨c5, h⟩ := gd_some h
      refine s_iald hX SH_99 c5 dX5_coloursOf_15 ?_
      refine s_ishl hX dX5_coloursOf_16 ?_
      refine s_goto (tgt := 21) hX dX5_coloursOf_17 (by decide) ?_
      refine s_mask [true, true, true, false, false, false] ?_
      exact hj3 _ h
def gX5_coloursTakenIn_4 (σ : Mm) (l1 : Int32) (rec : Int32 × Int32 → Option (Int32)) (x2 : Int32) (x3 : Int32) : Option (Int32) :=
  if 12 ≤ x3 then
  some x2
else
  gd l1 8 <|
  (fX9_has σ (σ 102 l1.toNatClampNeg) x3).bind fun r2 =>
  if r2 = 0 then
  bd (x3 + 1) fun v3 =>
  rec (x2, v3)
else
  gd l1 8 <|
  (fX5_coloursOf σ x3 (σ 96 l1.toNatClampNeg)).bind fun r5 =>
  bd (x2 ||| r5) fun v6 =>
  bd (x3 + 1) fun v7 =>
  rec (v6, v7)
def qX5_coloursTakenIn_4 (σ : Mm) (l1 : Int32) : Nat → Int32 × Int32 → Option (Int32) := lp (fun rec s => gX5_coloursTakenIn_4 σ l1 rec s.1 s.2)
def fX5_coloursTakenIn (σ : Mm) (l1 : Int32) : Option Int32 :=
  (qX5_coloursTakenIn_4 σ l1 FU (0, 0)).bind fun v1 =>
  some v1
set_option maxHeartbeats 4000000 in
theorem pX5_coloursTakenIn_4 {X : sT} {cs : Nat × Nat} (hX : sX X cX5_coloursTakenIn RX5 4 1 25) (hcs : cs.1 ≤ (sR X).cells ∧ cs.2 ≤ (sR X).slots) (σ : Mm) (l1 : Int32)  : ∀ (n : Nat) (s : Int32 × Int32) (r : Int32), qX5_coloursTakenIn_4 σ l1 n s = some r → sW X 4 cs σ 46 [none, none, some (.int r), none] [] → sW X 4 cs σ 4 [some (.ref (sad X 97)), some (.int l1), some (.int s.1), some (.int s.2)] [] := by
  refine lp_ind (P := fun (s : Int32 × Int32) (r : Int32) => sW X 4 cs σ 46 [none, none, some (.int r), none] [] → sW X 4 cs σ 4 [some (.ref (sad X 97)), some (.int l1), some (.int s.1), some (.int s.2)] []) ?_
  intro rec hrec s r h0 hk
  obtain ⟨x2, x3⟩ := s
  have h : gX5_coloursTakenIn_4 σ l1 rec x2 x3 = some r := h0
  unfold gX5_coloursTakenIn_4 at h
  show sW X 4 cs σ 4 [some (.ref (sad X 97)), some (.int l1), some (.int x2), some (.int x3)] []
  refine s_iload_n hX dX5_coloursTakenIn_4 rfl ?_
  refine s_bipush 12 hX dX5_coloursTakenIn_5 (by decide) ?_
  refine s_ic_ge (tgt := 46) hX dX5_coloursTakenIn_7 (by decide) (fun c9 => ?_) (fun c9 => ?_)
  · replace h := (if_pos c9).symm.trans h
    obtain rfl := rt1 h
    refine s_mask [false, false, true, false] ?_
    exact hk
  · replace h := (if_neg c9).symm.trans h
    refine s_aload_n hX dX5_coloursTakenIn_10 rfl ?_
    refine s_getR (r := 102) hX fo_RX5_24_4 SH_97 rfl dX5_coloursTakenIn_11 ?_
    refine s_iload_n hX dX5_coloursTakenIn_14 rfl ?_
    obtain ⟨c1, h⟩ := gd_some h
    refine s_iald hX SH_102 c1 dX5_coloursTakenIn_15 ?_
    refine s_iload_n hX dX5_coloursTakenIn_16 rfl ?_
    obtain ⟨r2, hc, h⟩ := bn_some h
    refine s_callSI _ hX (cX9_has_ok (sl X)  hc) ms_RX5_83 (fun _ => rfl) (by decide) (Nat.le_of_ble_eq_true rfl) hcs dX5_coloursTakenIn_17 rfl ?_
    refine s_if_eq (tgt := 40) hX dX5_coloursTakenIn_20 (by decide) (fun c8 => ?_) (fun c8 => ?_)
    · replace h := (if_pos c8).symm.trans h
      obtain ⟨v3, ev3, h⟩ := bd_some h
      refine s_iinc v3 hX dX5_coloursTakenIn_40 rfl (by rw [ev3]; rfl) (by decide) ?_
      refine s_goto (tgt := 4) hX dX5_coloursTakenIn_43 (by decide) ?_
      refine s_mask [true, true, true, true] ?_
      exact hrec _ _ h hk
    · replace h := (if_neg c8).symm.trans h
      refine s_iload_n hX dX5_coloursTakenIn_23 rfl ?_
      refine s_aload_n hX dX5_coloursTakenIn_24 rfl ?_
      refine s_iload_n hX dX5_coloursTakenIn_25 rfl ?_
      refine s_aload_n hX dX5_coloursTakenIn_26 rfl ?_
      refine s_getR (r := 94) hX fo_RX5_38_4 SH_97 rfl dX5_coloursTakenIn_27 ?_
      refine s_getR (r := 96) hX fo_RX5_189_2 SH_94 rfl dX5_coloursTakenIn_30 ?_
      refine s_iload_n hX dX5_coloursTakenIn_33 rfl ?_
      obtain ⟨c4, h⟩ := gd_some h
      refine s_iald hX SH_96 c4 dX5_coloursTakenIn_34 ?_
      obtain ⟨r5, hc, h⟩ := bn_some h
      refine s_callVI _ hX (cX5_coloursOf_ok (sl X)  hc) SH_97 mv_RX5_195_4 (fun _ => rfl) (by decide) (Nat.le_of_ble_eq_true rfl) hcs dX5_coloursTakenIn_35 rfl ?_
      refine s_ior hX dX5_coloursTakenIn_38 ?_
      obtain ⟨v6, ev6, h⟩ := bd_some h
      refine s_topi v6 ev6 ?_
      refine s_istore_n hX dX5_coloursTakenIn_39 (by decide) ?_
      obtain ⟨v7, ev7, h⟩ := bd_some h
      refine s_iinc v7 hX dX5_coloursTakenIn_40 rfl (by rw [ev7]; rfl) (by decide) ?_
      refine s_goto (tgt := 4) hX dX5_coloursTakenIn_43 (by decide) ?_
      refine s_mask [true, true, true, true] ?_
      exact hrec _ _ h hk
set_option maxHeartbeats 4000000 in
theorem cX5_coloursTakenIn_ok (l : Launch) {σ : Mm} {l1 : Int32} {r : Int32}  (h : fX5_coloursTakenIn σ l1 = some r) : cI l yX5_coloursTakenIn cX5_coloursTakenIn 4 .int 1 25 (fun ad => [.ref (ad 97), .int l1]) σ r σ := by
  refine c_enterI (fun ad => [some (.ref (ad 97)), some (.int l1), none, none]) (by decide) (fun ad => ⟨by simp [Value.category], Nat.le_of_ble_eq_true rfl⟩) (fun ad => ⟨2, rfl⟩) ?_
  intro X _ hX hret
  have hcs : ((0 : Nat), (0 : Nat)).1 ≤ (sR X).cells ∧ ((0 : Nat), (0 : Nat)).2 ≤ (sR X).slots := ⟨Nat.zero_le _, Nat.zero_le _⟩
  generalize hcs0 : ((0 : Nat), (0 : Nat)) = cs at hcs hret ⊢
  unfold fX5_coloursTakenIn at h
  show sW X 4 cs σ 0 [some (.ref (sad X 97)), some (.int l1), none, none] []
  refine s_iconst 0 hX dX5_coloursTakenIn_0 (by decide) ?_
  refine s_istore_n hX dX5_coloursTakenIn_1 (by decide) ?_
  refine s_iconst 0 hX dX5_coloursTakenIn_2 (by decide) ?_
  refine s_istore_n hX dX5_coloursTakenIn_3 (by decide) ?_
  obtain ⟨v1, hc, h⟩ := bn_some h
  refine s_mask [true, true, true, true] ?_
  refine pX5_coloursTakenIn_4 hX hcs _ _ _ _ _ hc ?_
  refine s_iload_n hX dX5_coloursTakenIn_46 rfl ?_
  obtain rfl := rt1 h
  exact hret _ _ (nzi _) dX5_coloursTakenIn_47
def fX5_promoteIfGainful (σ : Mm) (l1 : Int32) (l2 : Int32) : Option Mm :=
  (fX5_gainOf σ l1 l2).bind fun r1 =>
  if r1 ≤ 0 then
  some σ
else
  (fX5_isPromotedAround σ l1 l2).bind fun r2 =>
  if r2 = 0 then
  (fX5_coloursTakenIn σ l2).bind fun r3 =>
  (fX9_lowestMissing σ r3).bind fun r4 =>
  if (σ 97 9) ≤ r4 then
  some σ
else
  gd ((l2 * 12) + l1) 96 <|
  bd (upm σ 101 (upd (σ 101) ((l2 * 12) + l1).toNatClampNeg r4)) fun σ6 =>
  bd (upm σ6 97 (upd (σ6 97) 10 ((σ6 97 10) + 1))) fun σ7 =>
  bd (upm σ7 97 (upd (σ7 97) 11 ((σ7 97 11) + r1))) fun σ8 =>
  some σ8
else
  some σ
set_option maxHeartbeats 4000000 in
theorem cX5_promoteIfGainful_ok (l : Launch) {σ : Mm} {l1 : Int32} {l2 : Int32} {σ' : Mm}  (h : fX5_promoteIfGainful σ l1 l2 = some σ') : cV l yX5_promoteIfGainful cX5_promoteIfGainful 5 3 71 (fun ad => [.ref (ad 97), .int l1, .int l2]) σ σ' := by
  refine c_enterV (fun ad => [some (.ref (ad 97)), some (.int l1), some (.int l2), none, none]) (by decide) (fun ad => ⟨by simp [Value.category], Nat.le_of_ble_eq_true rfl⟩) (fun ad => ⟨2, rfl⟩) ?_
  intro X _ hX hret
  have hcs : ((0 : Nat), (0 : Nat)).1 ≤ (sR X).cells ∧ ((0 : Nat), (0 : Nat)).2 ≤ (sR X).slots := ⟨Nat.zero_le _, Nat.zero_le _⟩
  generalize hcs0 : ((0 : Nat), (0 : Nat)) = cs at hcs hret ⊢
  unfold fX5_promoteIfGainful at h
  show sW X 5 cs σ 0 [some (.ref (sad X 97)), some (.int l1), some (.int l2), none, none] []
  refine s_aload_n hX dX5_promoteIfGainful_0 rfl ?_
  refine s_iload_n hX dX5_promoteIfGainful_1 rfl ?_
  refine s_iload_n hX dX5_promoteIfGainful_2 rfl ?_
  obtain ⟨r1, hc, h⟩ := bn_some h
  refine s_callVI _ hX (cX5_gainOf_ok (sl X)  hc) SH_97 mv_RX5_163_4 (fun _ => rfl) (by decide) (Nat.le_of_ble_eq_true rfl) hcs dX5_promoteIfGainful_3 rfl ?_
  refine s_istore_n hX dX5_promoteIfGainful_6 (by decide) ?_
  refine s_iload_n hX dX5_promoteIfGainful_7 rfl ?_
  refine s_if_le (tgt := 20) hX dX5_promoteIfGainful_8 (by decide) (fun c11 => ?_) (fun c11 => ?_)
  · replace h := (if_pos c11).symm.trans h
    obtain rfl := rt1 h
    exact hret _ _ dX5_promoteIfGainful_20
  · replace h := (if_neg c11).symm.trans h
    refine s_aload_n hX dX5_promoteIfGainful_11 rfl ?_
    refine s_iload_n hX dX5_promoteIfGainful_12 rfl ?_
    refine s_iload_n hX dX5_promoteIfGainful_13 rfl ?_
    obtain ⟨r2, hc, h⟩ := bn_some h
    refine s_callVI _ hX (cX5_isPromotedAround_ok (sl X)  hc) SH_97 mv_RX5_167_4 (fun _ => rfl) (by decide) (Nat.le_of_ble_eq_true rfl) hcs dX5_promoteIfGainful_14 rfl ?_
    refine s_if_eq (tgt := 21) hX dX5_promoteIfGainful_17 (by decide) (fun c10 => ?_) (fun c10 => ?_)
    · replace h := (if_pos c10).symm.trans h
      refine s_aload_n hX dX5_promoteIfGainful_21 rfl ?_
      refine s_iload_n hX dX5_promoteIfGainful_22 rfl ?_
      obtain ⟨r3, hc, h⟩ := bn_some h
      refine s_callVI _ hX (cX5_coloursTakenIn_ok (sl X)  hc) SH_97 mv_RX5_170_4 (fun _ => rfl) (by decide) (Nat.le_of_ble_eq_true rfl) hcs dX5_promoteIfGainful_23 rfl ?_
      obtain ⟨r4, hc, h⟩ := bn_some h
      refine s_callSI _ hX (cX9_lowestMissing_ok (sl X)  hc) ms_RX5_173 (fun _ => rfl) (by decide) (Nat.le_of_ble_eq_true rfl) hcs dX5_promoteIfGainful_26 rfl ?_
      refine s_istore hX dX5_promoteIfGainful_29 (by decide) ?_
      refine s_iload hX dX5_promoteIfGainful_31 rfl ?_
      refine s_aload_n hX dX5_promoteIfGainful_33 rfl ?_
      refine s_getI hX fo_RX5_42_4 SH_97 rfl dX5_promoteIfGainful_34 ?_
      refine s_ic_ge (tgt := 73) hX dX5_promoteIfGainful_37 (by decide) (fun c9 => ?_) (fun c9 => ?_)
      · replace h := (if_pos c9).symm.trans h
        obtain rfl := rt1 h
        exact hret _ _ dX5_promoteIfGainful_73
      · replace h := (if_neg c9).symm.trans h
        refine s_aload_n hX dX5_promoteIfGainful_40 rfl ?_
        refine s_getR (r := 101) hX fo_RX5_21_4 SH_97 rfl dX5_promoteIfGainful_41 ?_
        refine s_iload_n hX dX5_promoteIfGainful_44 rfl ?_
        refine s_bipush 12 hX dX5_promoteIfGainful_45 (by decide) ?_
        refine s_imul hX dX5_promoteIfGainful_47 ?_
        refine s_iload_n hX dX5_promoteIfGainful_48 rfl ?_
        refine s_iadd hX dX5_promoteIfGainful_49 ?_
        refine s_iload hX dX5_promoteIfGainful_50 rfl ?_
        obtain ⟨c5, h⟩ := gd_some h
        obtain ⟨σ6, eσ6, h⟩ := bd_some h
        refine s_iast hX SH_101 c5 dX5_promoteIfGainful_52 ?_
        refine s_mem σ6 eσ6 ?_
        refine s_aload_n hX dX5_promoteIfGainful_53 rfl ?_
        refine s_dup hX dX5_promoteIfGainful_54 rfl ?_
        refine s_getI hX fo_RX5_141_4 SH_97 rfl dX5_promoteIfGainful_55 ?_
        refine s_iconst 1 hX dX5_promoteIfGainful_58 (by decide) ?_
        refine s_iadd hX dX5_promoteIfGainful_59 ?_
        obtain ⟨σ7, eσ7, h⟩ := bd_some h
        refine s_putI hX fo_RX5_141_4 SH_97 rfl dX5_promoteIfGainful_60 ?_
        refine s_mem σ7 eσ7 ?_
        refine s_aload_n hX dX5_promoteIfGainful_63 rfl ?_
        refine s_dup hX dX5_promoteIfGainful_64 rfl ?_
        refine s_getI hX fo_RX5_111_4 SH_97 rfl dX5_promoteIfGainful_65 ?_
        refine s_iload_n hX dX5_promoteIfGainful_68 rfl ?_
        refine s_iadd hX dX5_promoteIfGainful_69 ?_
        obtain ⟨σ8, eσ8, h⟩ := bd_some h
        refine s_putI hX fo_RX5_111_4 SH_97 rfl dX5_promoteIfGainful_70 ?_
        refine s_mem σ8 eσ8 ?_
        obtain rfl := rt1 h
        exact hret _ _ dX5_promoteIfGainful_73
    · replace h := (if_neg c10).symm.trans h
      obtain rfl := rt1 h
      exact hret _ _ dX5_promoteIfGainful_20
def gX5_promoteAll_48 (l1 : Int32) (l2 : Int32) (l3 : Int32) (rec : Mm × Int32 → Option (Mm)) (σ : Mm) (x4 : Int32) : Option (Mm) :=
  if 12 ≤ x4 then
  some σ
else
  gd x4 12 <|
  if (σ 98 x4.toNatClampNeg) = 1 then
  (fX5_promoteIfGainful σ x4 l3).bind fun σ3 =>
  bd (x4 + 1) fun v4 =>
  rec (σ3, v4)
else
  bd (x4 + 1) fun v2 =>
  rec (σ, v2)
def qX5_promoteAll_48 (l1 : Int32) (l2 : Int32) (l3 : Int32) : Nat → Mm × Int32 → Option (Mm) := lp (fun rec s => gX5_promoteAll_48 l1 l2 l3 rec s.1 s.2)
def gX5_promoteAll_22  (rec : Mm × Int32 × Int32 → Option (Mm)) (σ : Mm) (x1 : Int32) (x2 : Int32) : Option (Mm) :=
  if (σ 94 3) ≤ x2 then
  some σ
else
  (fX5_nextLoop σ x1).bind fun r1 =>
  bd (x1 ||| (1 <<< (r1 &&& 31))) fun v2 =>
  (qX5_promoteAll_48 v2 x2 r1 FU (σ, 0)).bind fun σ3 =>
  bd (x2 + 1) fun v4 =>
  rec (σ3, v2, v4)
def qX5_promoteAll_22  : Nat → Mm × Int32 × Int32 → Option (Mm) := lp (fun rec s => gX5_promoteAll_22  rec s.1 s.2.1 s.2.2)
def fX5_promoteAll (σ : Mm) : Option Mm :=
  (fJ7_fill_53178 σ 101 96 (-1)).bind fun σ1 =>
  bd (upm σ1 97 (upd (σ1 97) 10 0)) fun σ2 =>
  bd (upm σ2 97 (upd (σ2 97) 11 0)) fun σ3 =>
  (qX5_promoteAll_22  FU (σ3, 0, 0)).bind fun σ4 =>
  some σ4
set_option maxHeartbeats 4000000 in
theorem pX5_promoteAll_48 {X : sT} {cs : Nat × Nat} (hX : sX X cX5_promoteAll RX5 5 4 95) (hcs : cs.1 ≤ (sR X).cells ∧ cs.2 ≤ (sR X).slots) (l1 : Int32) (l2 : Int32) (l3 : Int32)  : ∀ (n : Nat) (s : Mm × Int32) (r : Mm), qX5_promoteAll_48 l1 l2 l3 n s = some r → sW X 5 cs r 79 [some (.ref (sad X 97)), some (.int l1), some (.int l2), none, none] [] → sW X 5 cs s.1 48 [some (.ref (sad X 97)), some (.int l1), some (.int l2), some (.int l3), some (.int s.2)] [] := by
  refine lp_ind (P := fun (s : Mm × Int32) (r : Mm) => sW X 5 cs r 79 [some (.ref (sad X 97)), some (.int l1), some (.int l2), none, none] [] → sW X 5 cs s.1 48 [some (.ref (sad X 97)), some (.int l1), some (.int l2), some (.int l3), some (.int s.2)] []) ?_
  intro rec hrec s r h0 hk
  obtain ⟨σ, x4⟩ := s
  have h : gX5_promoteAll_48 l1 l2 l3 rec σ x4 = some r := h0
  unfold gX5_promoteAll_48 at h
  show sW X 5 cs σ 48 [some (.ref (sad X 97)), some (.int l1), some (.int l2), some (.int l3), some (.int x4)] []
  refine s_iload hX dX5_promoteAll_48 rfl ?_
  refine s_bipush 12 hX dX5_promoteAll_50 (by decide) ?_
  refine s_ic_ge (tgt := 79) hX dX5_promoteAll_52 (by decide) (fun c6 => ?_) (fun c6 => ?_)
  · replace h := (if_pos c6).symm.trans h
    obtain rfl := rt1 h
    refine s_mask [true, true, true, false, false] ?_
    exact hk
  · replace h := (if_neg c6).symm.trans h
    refine s_aload_n hX dX5_promoteAll_55 rfl ?_
    refine s_getR (r := 98) hX fo_RX5_9_4 SH_97 rfl dX5_promoteAll_56 ?_
    refine s_iload hX dX5_promoteAll_59 rfl ?_
    obtain ⟨c1, h⟩ := gd_some h
    refine s_iald hX SH_98 c1 dX5_promoteAll_61 ?_
    refine s_iconst 1 hX dX5_promoteAll_62 (by decide) ?_
    refine s_ic_ne (tgt := 73) hX dX5_promoteAll_63 (by decide) (fun c5 => ?_) (fun c5 => ?_)
    · replace h := (if_neg c5).symm.trans h
      obtain ⟨v2, ev2, h⟩ := bd_some h
      refine s_iinc v2 hX dX5_promoteAll_73 rfl (by rw [ev2]; rfl) (by decide) ?_
      refine s_goto (tgt := 48) hX dX5_promoteAll_76 (by decide) ?_
      refine s_mask [true, true, true, true, true] ?_
      exact hrec _ _ h hk
    · replace h := (if_pos c5).symm.trans h
      refine s_aload_n hX dX5_promoteAll_66 rfl ?_
      refine s_iload hX dX5_promoteAll_67 rfl ?_
      refine s_iload_n hX dX5_promoteAll_69 rfl ?_
      obtain ⟨σ3, hc, h⟩ := bn_some h
      refine s_callVV _ hX (cX5_promoteIfGainful_ok (sl X)  hc) SH_97 mv_RX5_147_4 (fun _ => rfl) (by decide) (Nat.le_of_ble_eq_true rfl) hcs dX5_promoteAll_70 rfl ?_
      obtain ⟨v4, ev4, h⟩ := bd_some h
      refine s_iinc v4 hX dX5_promoteAll_73 rfl (by rw [ev4]; rfl) (by decide) ?_
      refine s_goto (tgt := 48) hX dX5_promoteAll_76 (by decide) ?_
      refine s_mask [true, true, true, true, true] ?_
      exact hrec _ _ h hk
set_option maxHeartbeats 4000000 in
theorem pX5_promoteAll_22 {X : sT} {cs : Nat × Nat} (hX : sX X cX5_promoteAll RX5 5 4 95) (hcs : cs.1 ≤ (sR X).cells ∧ cs.2 ≤ (sR X).slots)   : ∀ (n : Nat) (s : Mm × Int32 × Int32) (r : Mm), qX5_promoteAll_22  n s = some r → sW X 5 cs r 85 [none, none, none, none, none] [] → sW X 5 cs s.1 22 [some (.ref (sad X 97)), some (.int s.2.1), some (.int s.2.2), none, none] [] := by
  refine lp_ind (P := fun (s : Mm × Int32 × Int32) (r : Mm) => sW X 5 cs r 85 [none, none, none, none, none] [] → sW X 5 cs s.1 22 [some (.ref (sad X 97)), some (.int s.2.1), some (.int s.2.2), none, none] []) ?_
  intro rec hrec s r h0 hk
  obtain ⟨σ, x1, x2⟩ := s
  have h : gX5_promoteAll_22  rec σ x1 x2 = some r := h0
  unfold gX5_promoteAll_22 at h
  show sW X 5 cs σ 22 [some (.ref (sad X 97)), some (.int x1), some (.int x2), none, none] []
  refine s_iload_n hX dX5_promoteAll_22 rfl ?_
  refine s_aload_n hX dX5_promoteAll_23 rfl ?_
  refine s_getR (r := 94) hX fo_RX5_38_4 SH_97 rfl dX5_promoteAll_24 ?_
  refine s_getI hX fo_RX5_114_2 SH_94 rfl dX5_promoteAll_27 ?_
  refine s_ic_ge (tgt := 85) hX dX5_promoteAll_30 (by decide) (fun c5 => ?_) (fun c5 => ?_)
  · replace h := (if_pos c5).symm.trans h
    obtain rfl := rt1 h
    refine s_mask [false, false, false, false, false] ?_
    exact hk
  · replace h := (if_neg c5).symm.trans h
    refine s_aload_n hX dX5_promoteAll_33 rfl ?_
    refine s_iload_n hX dX5_promoteAll_34 rfl ?_
    obtain ⟨r1, hc, h⟩ := bn_some h
    refine s_callVI _ hX (cX5_nextLoop_ok (sl X)  hc) SH_97 mv_RX5_144_4 (fun _ => rfl) (by decide) (Nat.le_of_ble_eq_true rfl) hcs dX5_promoteAll_35 rfl ?_
    refine s_istore_n hX dX5_promoteAll_38 (by decide) ?_
    refine s_iload_n hX dX5_promoteAll_39 rfl ?_
    refine s_iconst 1 hX dX5_promoteAll_40 (by decide) ?_
    refine s_iload_n hX dX5_promoteAll_41 rfl ?_
    refine s_ishl hX dX5_promoteAll_42 ?_
    refine s_ior hX dX5_promoteAll_43 ?_
    obtain ⟨v2, ev2, h⟩ := bd_some h
    refine s_topi v2 ev2 ?_
    refine s_istore_n hX dX5_promoteAll_44 (by decide) ?_
    refine s_iconst 0 hX dX5_promoteAll_45 (by decide) ?_
    refine s_istore hX dX5_promoteAll_46 (by decide) ?_
    obtain ⟨σ3, hc, h⟩ := bn_some h
    refine s_mask [true, true, true, true, true] ?_
    refine pX5_promoteAll_48 hX hcs _ _ _ _ _ _ hc ?_
    obtain ⟨v4, ev4, h⟩ := bd_some h
    refine s_iinc v4 hX dX5_promoteAll_79 rfl (by rw [ev4]; rfl) (by decide) ?_
    refine s_goto (tgt := 22) hX dX5_promoteAll_82 (by decide) ?_
    refine s_mask [true, true, true, false, false] ?_
    exact hrec _ _ h hk
set_option maxHeartbeats 4000000 in
theorem cX5_promoteAll_ok (l : Launch) {σ : Mm} {σ' : Mm}  (h : fX5_promoteAll σ = some σ') : cV l yX5_promoteAll cX5_promoteAll 5 4 95 (fun ad => [.ref (ad 97)]) σ σ' := by
  refine c_enterV (fun ad => [some (.ref (ad 97)), none, none, none, none]) (by decide) (fun ad => ⟨by simp [Value.category], Nat.le_of_ble_eq_true rfl⟩) (fun ad => ⟨4, rfl⟩) ?_
  intro X _ hX hret
  have hcs : ((0 : Nat), (0 : Nat)).1 ≤ (sR X).cells ∧ ((0 : Nat), (0 : Nat)).2 ≤ (sR X).slots := ⟨Nat.zero_le _, Nat.zero_le _⟩
  generalize hcs0 : ((0 : Nat), (0 : Nat)) = cs at hcs hret ⊢
  unfold fX5_promoteAll at h
  show sW X 5 cs σ 0 [some (.ref (sad X 97)), none, none, none, none] []
  refine s_aload_n hX dX5_promoteAll_0 rfl ?_
  refine s_getR (r := 101) hX fo_RX5_21_4 SH_97 rfl dX5_promoteAll_1 ?_
  refine s_iconst (-1) hX dX5_promoteAll_4 (by decide) ?_
  obtain ⟨σ1, hc, h⟩ := bn_some h
  refine s_callSV _ hX (cJ7_fill_53178_ok (sl X) SH_101 hc) ms_RX5_135 (fun _ => rfl) (by decide) (Nat.le_of_ble_eq_true rfl) hcs dX5_promoteAll_5 rfl ?_
  refine s_aload_n hX dX5_promoteAll_8 rfl ?_
  refine s_iconst 0 hX dX5_promoteAll_9 (by decide) ?_
  obtain ⟨σ2, eσ2, h⟩ := bd_some h
  refine s_putI hX fo_RX5_141_4 SH_97 rfl dX5_promoteAll_10 ?_
  refine s_mem σ2 eσ2 ?_
  refine s_aload_n hX dX5_promoteAll_13 rfl ?_
  refine s_iconst 0 hX dX5_promoteAll_14 (by decide) ?_
  obtain ⟨σ3, eσ3, h⟩ := bd_some h
  refine s_putI hX fo_RX5_111_4 SH_97 rfl dX5_promoteAll_15 ?_
  refine s_mem σ3 eσ3 ?_
  refine s_iconst 0 hX dX5_promoteAll_18 (by decide) ?_
  refine s_istore_n hX dX5_promoteAll_19 (by decide) ?_
  refine s_iconst 0 hX dX5_promoteAll_20 (by decide) ?_
  refine s_istore_n hX dX5_promoteAll_21 (by decide) ?_
  obtain ⟨σ4, hc, h⟩ := bn_some h
  refine s_mask [true, true, true, false, false] ?_
  refine pX5_promoteAll_22 hX hcs  _ _ _ hc ?_
  obtain rfl := rt1 h
  exact hret _ _ dX5_promoteAll_85
def gX9_numbersInUse_4 (σ : Mm) (a0 : Nat) (n0 : Nat) (rec : Int32 × Int32 → Option (Int32)) (x1 : Int32) (x2 : Int32) : Option (Int32) :=
  if 12 ≤ x2 then
  some x1
else
  gd x2 n0 <|
  bd (mx x1 (σ a0 x2.toNatClampNeg)) fun v2 =>
  bd (x2 + 1) fun v3 =>
  rec (v2, v3)
def qX9_numbersInUse_4 (σ : Mm) (a0 : Nat) (n0 : Nat) : Nat → Int32 × Int32 → Option (Int32) := lp (fun rec s => gX9_numbersInUse_4 σ a0 n0 rec s.1 s.2)
def fX9_numbersInUse (σ : Mm) (a0 : Nat) (n0 : Nat) : Option Int32 :=
  (qX9_numbersInUse_4 σ a0 n0 FU ((-1), 0)).bind fun v1 =>
  some (v1 + 1)
set_option maxHeartbeats 4000000 in
theorem pX9_numbersInUse_4 {X : sT} {cs : Nat × Nat} (hX : sX X cX9_numbersInUse RX9 3 1 40) (hcs : cs.1 ≤ (sR X).cells ∧ cs.2 ≤ (sR X).slots) (σ : Mm) (a0 : Nat) (n0 : Nat) (ha0 : SH[a0]? = some (0, 0, n0, [])) : ∀ (n : Nat) (s : Int32 × Int32) (r : Int32), qX9_numbersInUse_4 σ a0 n0 n s = some r → sW X 3 cs σ 24 [none, some (.int r), none] [] → sW X 3 cs σ 4 [some (.ref (sad X a0)), some (.int s.1), some (.int s.2)] [] := by
  refine lp_ind (P := fun (s : Int32 × Int32) (r : Int32) => sW X 3 cs σ 24 [none, some (.int r), none] [] → sW X 3 cs σ 4 [some (.ref (sad X a0)), some (.int s.1), some (.int s.2)] []) ?_
  intro rec hrec s r h0 hk
  obtain ⟨x1, x2⟩ := s
  have h : gX9_numbersInUse_4 σ a0 n0 rec x1 x2 = some r := h0
  unfold gX9_numbersInUse_4 at h
  show sW X 3 cs σ 4 [some (.ref (sad X a0)), some (.int x1), some (.int x2)] []
  refine s_iload_n hX dX9_numbersInUse_4 rfl ?_
  refine s_bipush 12 hX dX9_numbersInUse_5 (by decide) ?_
  refine s_ic_ge (tgt := 24) hX dX9_numbersInUse_7 (by decide) (fun c4 => ?_) (fun c4 => ?_)
  · replace h := (if_pos c4).symm.trans h
    obtain rfl := rt1 h
    refine s_mask [false, true, false] ?_
    exact hk
  · replace h := (if_neg c4).symm.trans h
    refine s_iload_n hX dX9_numbersInUse_10 rfl ?_
    refine s_aload_n hX dX9_numbersInUse_11 rfl ?_
    refine s_iload_n hX dX9_numbersInUse_12 rfl ?_
    obtain ⟨c1, h⟩ := gd_some h
    refine s_iald hX ha0 c1 dX9_numbersInUse_13 ?_
    refine s_max hX w3_59 (by decide) (Nat.le_of_ble_eq_true rfl) hcs dX9_numbersInUse_14 ?_
    obtain ⟨v2, ev2, h⟩ := bd_some h
    refine s_topi v2 ev2 ?_
    refine s_istore_n hX dX9_numbersInUse_17 (by decide) ?_
    obtain ⟨v3, ev3, h⟩ := bd_some h
    refine s_iinc v3 hX dX9_numbersInUse_18 rfl (by rw [ev3]; rfl) (by decide) ?_
    refine s_goto (tgt := 4) hX dX9_numbersInUse_21 (by decide) ?_
    refine s_mask [true, true, true] ?_
    exact hrec _ _ h hk
set_option maxHeartbeats 4000000 in
theorem cX9_numbersInUse_ok (l : Launch) {σ : Mm} {a0 : Nat} {n0 : Nat} {r : Int32} (ha0 : SH[a0]? = some (0, 0, n0, [])) (h : fX9_numbersInUse σ a0 n0 = some r) : cI l yX9_numbersInUse cX9_numbersInUse 3 .int 1 40 (fun ad => [.ref (ad a0)]) σ r σ := by
  refine c_enterI (fun ad => [some (.ref (ad a0)), none, none]) (by decide) (fun ad => ⟨by simp [Value.category], Nat.le_of_ble_eq_true rfl⟩) (fun ad => ⟨2, rfl⟩) ?_
  intro X _ hX hret
  have hcs : ((0 : Nat), (0 : Nat)).1 ≤ (sR X).cells ∧ ((0 : Nat), (0 : Nat)).2 ≤ (sR X).slots := ⟨Nat.zero_le _, Nat.zero_le _⟩
  generalize hcs0 : ((0 : Nat), (0 : Nat)) = cs at hcs hret ⊢
  unfold fX9_numbersInUse at h
  show sW X 3 cs σ 0 [some (.ref (sad X a0)), none, none] []
  refine s_iconst (-1) hX dX9_numbersInUse_0 (by decide) ?_
  refine s_istore_n hX dX9_numbersInUse_1 (by decide) ?_
  refine s_iconst 0 hX dX9_numbersInUse_2 (by decide) ?_
  refine s_istore_n hX dX9_numbersInUse_3 (by decide) ?_
  obtain ⟨v1, hc, h⟩ := bn_some h
  refine s_mask [true, true, true] ?_
  refine pX9_numbersInUse_4 hX hcs _ _ _ ha0 _ _ _ hc ?_
  refine s_iload_n hX dX9_numbersInUse_24 rfl ?_
  refine s_iconst 1 hX dX9_numbersInUse_25 (by decide) ?_
  refine s_iadd hX dX9_numbersInUse_26 ?_
  obtain rfl := rt1 h
  exact hret _ _ (nzi _) dX9_numbersInUse_27
def gX5_firstOverRegisters_2 (σ : Mm) (rec : Int32 → Option (Int32)) (x1 : Int32) : Option (Int32) :=
  if 11 ≤ x1 then
  some x1
else
  gd x1 12 <|
  if (σ 97 9) ≤ (σ 99 x1.toNatClampNeg) then
  some x1
else
  bd (x1 + 1) fun v2 =>
  rec v2
def qX5_firstOverRegisters_2 (σ : Mm) : Nat → Int32 → Option (Int32) := lp (fun rec s => gX5_firstOverRegisters_2 σ rec s)
def fX5_firstOverRegisters (σ : Mm) : Option Int32 :=
  (qX5_firstOverRegisters_2 σ FU 0).bind fun v1 =>
  some v1
set_option maxHeartbeats 4000000 in
theorem pX5_firstOverRegisters_2 {X : sT} {cs : Nat × Nat} (hX : sX X cX5_firstOverRegisters RX5 2 0 0) (hcs : cs.1 ≤ (sR X).cells ∧ cs.2 ≤ (sR X).slots) (σ : Mm)  : ∀ (n : Nat) (s : Int32) (r : Int32), qX5_firstOverRegisters_2 σ n s = some r → sW X 2 cs σ 27 [none, some (.int r)] [] → sW X 2 cs σ 2 [some (.ref (sad X 97)), some (.int s)] [] := by
  refine lp_ind (P := fun (s : Int32) (r : Int32) => sW X 2 cs σ 27 [none, some (.int r)] [] → sW X 2 cs σ 2 [some (.ref (sad X 97)), some (.int s)] []) ?_
  intro rec hrec s r h0 hk
  obtain ⟨x1, e0⟩ : ∃ z, z = s := ⟨s, rfl⟩
  subst e0
  have h : gX5_firstOverRegisters_2 σ rec x1 = some r := h0
  unfold gX5_firstOverRegisters_2 at h
  show sW X 2 cs σ 2 [some (.ref (sad X 97)), some (.int x1)] []
  refine s_iload_n hX dX5_firstOverRegisters_2 rfl ?_
  refine s_bipush 11 hX dX5_firstOverRegisters_3 (by decide) ?_
  refine s_ic_ge (tgt := 27) hX dX5_firstOverRegisters_5 (by decide) (fun c4 => ?_) (fun c4 => ?_)
  · replace h := (if_pos c4).symm.trans h
    obtain rfl := rt1 h
    refine s_mask [false, true] ?_
    exact hk
  · replace h := (if_neg c4).symm.trans h
    refine s_aload_n hX dX5_firstOverRegisters_8 rfl ?_
    refine s_getR (r := 99) hX fo_RX5_15_4 SH_97 rfl dX5_firstOverRegisters_9 ?_
    refine s_iload_n hX dX5_firstOverRegisters_12 rfl ?_
    obtain ⟨c1, h⟩ := gd_some h
    refine s_iald hX SH_99 c1 dX5_firstOverRegisters_13 ?_
    refine s_aload_n hX dX5_firstOverRegisters_14 rfl ?_
    refine s_getI hX fo_RX5_42_4 SH_97 rfl dX5_firstOverRegisters_15 ?_
    refine s_ic_ge (tgt := 27) hX dX5_firstOverRegisters_18 (by decide) (fun c3 => ?_) (fun c3 => ?_)
    · replace h := (if_pos c3).symm.trans h
      obtain rfl := rt1 h
      refine s_mask [false, true] ?_
      exact hk
    · replace h := (if_neg c3).symm.trans h
      obtain ⟨v2, ev2, h⟩ := bd_some h
      refine s_iinc v2 hX dX5_firstOverRegisters_21 rfl (by rw [ev2]; rfl) (by decide) ?_
      refine s_goto (tgt := 2) hX dX5_firstOverRegisters_24 (by decide) ?_
      refine s_mask [true, true] ?_
      exact hrec _ _ h hk
set_option maxHeartbeats 4000000 in
theorem cX5_firstOverRegisters_ok (l : Launch) {σ : Mm} {r : Int32}  (h : fX5_firstOverRegisters σ = some r) : cI l yX5_firstOverRegisters cX5_firstOverRegisters 2 .int 0 0 (fun ad => [.ref (ad 97)]) σ r σ := by
  refine c_enterI (fun ad => [some (.ref (ad 97)), none]) (by decide) (fun ad => ⟨by simp [Value.category], Nat.le_of_ble_eq_true rfl⟩) (fun ad => ⟨1, rfl⟩) ?_
  intro X _ hX hret
  have hcs : ((0 : Nat), (0 : Nat)).1 ≤ (sR X).cells ∧ ((0 : Nat), (0 : Nat)).2 ≤ (sR X).slots := ⟨Nat.zero_le _, Nat.zero_le _⟩
  generalize hcs0 : ((0 : Nat), (0 : Nat)) = cs at hcs hret ⊢
  unfold fX5_firstOverRegisters at h
  show sW X 2 cs σ 0 [some (.ref (sad X 97)), none] []
  refine s_iconst 0 hX dX5_firstOverRegisters_0 (by decide) ?_
  refine s_istore_n hX dX5_firstOverRegisters_1 (by decide) ?_
  obtain ⟨v1, hc, h⟩ := bn_some h
  refine s_mask [true, true] ?_
  refine pX5_firstOverRegisters_2 hX hcs _ _ _ _ hc ?_
  refine s_iload_n hX dX5_firstOverRegisters_27 rfl ?_
  obtain rfl := rt1 h
  exact hret _ _ (nzi _) dX5_firstOverRegisters_28
def fX5_wouldBeRecomputed (σ : Mm) (l1 : Int32) : Option Int32 :=
  if (σ 97 12) = 0 then
  some 0
else
  (fX1_canRecompute σ l1).bind fun r1 =>
  if r1 = 0 then
  some 0
else
  some 1
set_option maxHeartbeats 4000000 in
theorem cX5_wouldBeRecomputed_ok (l : Launch) {σ : Mm} {l1 : Int32} {r : Int32}  (h : fX5_wouldBeRecomputed σ l1 = some r) : cI l yX5_wouldBeRecomputed cX5_wouldBeRecomputed 2 .boolean 2 44 (fun ad => [.ref (ad 97), .int l1]) σ r σ := by
  refine c_enterI (fun ad => [some (.ref (ad 97)), some (.int l1)]) (by decide) (fun ad => ⟨by simp [Value.category], Nat.le_of_ble_eq_true rfl⟩) (fun ad => ⟨0, rfl⟩) ?_
  intro X _ hX hret
  have hcs : ((0 : Nat), (0 : Nat)).1 ≤ (sR X).cells ∧ ((0 : Nat), (0 : Nat)).2 ≤ (sR X).slots := ⟨Nat.zero_le _, Nat.zero_le _⟩
  generalize hcs0 : ((0 : Nat), (0 : Nat)) = cs at hcs hret ⊢
  unfold fX5_wouldBeRecomputed at h
  show sW X 2 cs σ 0 [some (.ref (sad X 97)), some (.int l1)] []
  refine s_aload_n hX dX5_wouldBeRecomputed_0 rfl ?_
  refine s_getI hX fo_RX5_46_4 SH_97 rfl dX5_wouldBeRecomputed_1 ?_
  refine s_if_eq (tgt := 22) hX dX5_wouldBeRecomputed_4 (by decide) (fun c3 => ?_) (fun c3 => ?_)
  · replace h := (if_pos c3).symm.trans h
    refine s_iconst 0 hX dX5_wouldBeRecomputed_22 (by decide) ?_
    obtain rfl := rt1 h
    exact hret _ _ nz0 dX5_wouldBeRecomputed_23
  · replace h := (if_neg c3).symm.trans h
    refine s_aload_n hX dX5_wouldBeRecomputed_7 rfl ?_
    refine s_getR (r := 87) hX fo_RX5_34_4 SH_97 rfl dX5_wouldBeRecomputed_8 ?_
    refine s_iload_n hX dX5_wouldBeRecomputed_11 rfl ?_
    obtain ⟨r1, hc, h⟩ := bn_some h
    refine s_callVI _ hX (cX1_canRecompute_ok (sl X)  hc) SH_87 mv_RX5_97_1 (fun _ => rfl) (by decide) (Nat.le_of_ble_eq_true rfl) hcs dX5_wouldBeRecomputed_12 rfl ?_
    refine s_if_eq (tgt := 22) hX dX5_wouldBeRecomputed_15 (by decide) (fun c2 => ?_) (fun c2 => ?_)
    · replace h := (if_pos c2).symm.trans h
      refine s_iconst 0 hX dX5_wouldBeRecomputed_22 (by decide) ?_
      obtain rfl := rt1 h
      exact hret _ _ nz0 dX5_wouldBeRecomputed_23
    · replace h := (if_neg c2).symm.trans h
      refine s_iconst 1 hX dX5_wouldBeRecomputed_18 (by decide) ?_
      refine s_goto (tgt := 23) hX dX5_wouldBeRecomputed_19 (by decide) ?_
      obtain rfl := rt1 h
      exact hret _ _ nz1 dX5_wouldBeRecomputed_23
def fX5_outsideCost (σ : Mm) (l1 : Int32) : Option Int32 :=
  (fX5_wouldBeRecomputed σ l1).bind fun r1 =>
  if r1 = 0 then
  (fX1_memoryCost σ l1).bind fun r2 =>
  some r2
else
  (fX1_recomputingCost σ l1).bind fun r3 =>
  some r3
set_option maxHeartbeats 4000000 in
theorem cX5_outsideCost_ok (l : Launch) {σ : Mm} {l1 : Int32} {r : Int32}  (h : fX5_outsideCost σ l1 = some r) : cI l yX5_outsideCost cX5_outsideCost 2 .int 3 65 (fun ad => [.ref (ad 97), .int l1]) σ r σ := by
  refine c_enterI (fun ad => [some (.ref (ad 97)), some (.int l1)]) (by decide) (fun ad => ⟨by simp [Value.category], Nat.le_of_ble_eq_true rfl⟩) (fun ad => ⟨0, rfl⟩) ?_
  intro X _ hX hret
  have hcs : ((0 : Nat), (0 : Nat)).1 ≤ (sR X).cells ∧ ((0 : Nat), (0 : Nat)).2 ≤ (sR X).slots := ⟨Nat.zero_le _, Nat.zero_le _⟩
  generalize hcs0 : ((0 : Nat), (0 : Nat)) = cs at hcs hret ⊢
  unfold fX5_outsideCost at h
  show sW X 2 cs σ 0 [some (.ref (sad X 97)), some (.int l1)] []
  refine s_aload_n hX dX5_outsideCost_0 rfl ?_
  refine s_iload_n hX dX5_outsideCost_1 rfl ?_
  obtain ⟨r1, hc, h⟩ := bn_some h
  refine s_callVI _ hX (cX5_wouldBeRecomputed_ok (sl X)  hc) SH_97 mv_RX5_93_4 (fun _ => rfl) (by decide) (Nat.le_of_ble_eq_true rfl) hcs dX5_outsideCost_2 rfl ?_
  refine s_if_eq (tgt := 19) hX dX5_outsideCost_5 (by decide) (fun c4 => ?_) (fun c4 => ?_)
  · replace h := (if_pos c4).symm.trans h
    refine s_aload_n hX dX5_outsideCost_19 rfl ?_
    refine s_getR (r := 87) hX fo_RX5_34_4 SH_97 rfl dX5_outsideCost_20 ?_
    refine s_iload_n hX dX5_outsideCost_23 rfl ?_
    obtain ⟨r2, hc, h⟩ := bn_some h
    refine s_callVI _ hX (cX1_memoryCost_ok (sl X)  hc) SH_87 mv_RX5_103_1 (fun _ => rfl) (by decide) (Nat.le_of_ble_eq_true rfl) hcs dX5_outsideCost_24 rfl ?_
    obtain rfl := rt1 h
    exact hret _ _ (nzi _) dX5_outsideCost_27
  · replace h := (if_neg c4).symm.trans h
    refine s_aload_n hX dX5_outsideCost_8 rfl ?_
    refine s_getR (r := 87) hX fo_RX5_34_4 SH_97 rfl dX5_outsideCost_9 ?_
    refine s_iload_n hX dX5_outsideCost_12 rfl ?_
    obtain ⟨r3, hc, h⟩ := bn_some h
    refine s_callVI _ hX (cX1_recomputingCost_ok (sl X)  hc) SH_87 mv_RX5_100_1 (fun _ => rfl) (by decide) (Nat.le_of_ble_eq_true rfl) hcs dX5_outsideCost_13 rfl ?_
    refine s_goto (tgt := 27) hX dX5_outsideCost_16 (by decide) ?_
    obtain rfl := rt1 h
    exact hret _ _ (nzi _) dX5_outsideCost_27
def gX5_takeOutOne_37 (σ : Mm) (l2 : Int32) (rec : Int32 × Int32 × Int32 → Option (Int32)) (x3 : Int32) (x4 : Int32) (x5 : Int32) : Option (Int32) :=
  if 12 ≤ x5 then
  some x3
else
  (fX9_has σ l2 x5).bind fun r1 =>
  if r1 = 0 then
  bd (x5 + 1) fun v2 =>
  rec (x3, x4, v2)
else
  (fX5_outsideCost σ x5).bind fun r3 =>
  if r3 < x4 then
  bd (x5 + 1) fun v4 =>
  rec (x5, r3, v4)
else
  if r3 = x4 then
  if x3 ≤ x5 then
  bd (x5 + 1) fun v6 =>
  rec (x3, x4, v6)
else
  bd (x5 + 1) fun v7 =>
  rec (x5, r3, v7)
else
  bd (x5 + 1) fun v5 =>
  rec (x3, x4, v5)
def qX5_takeOutOne_37 (σ : Mm) (l2 : Int32) : Nat → Int32 × Int32 × Int32 → Option (Int32) := lp (fun rec s => gX5_takeOutOne_37 σ l2 rec s.1 s.2.1 s.2.2)
def fX5_takeOutOne (σ : Mm) : Option Mm :=
  (fX5_firstOverRegisters σ).bind fun r1 =>
  gd r1 12 <|
  (fX5_variablesAt σ 0).bind fun r3 =>
  bd (((1 <<< (r1 &&& 31)) ||| (σ 91 r1.toNatClampNeg)) &&& r3) fun v4 =>
  (fX5_outsideCost σ r1).bind fun r5 =>
  (qX5_takeOutOne_37 σ v4 FU (r1, r5, 0)).bind fun v6 =>
  (fX5_wouldBeRecomputed σ v6).bind fun r7 =>
  if r7 = 0 then
  gd v6 12 <|
  bd (upm σ 98 (upd (σ 98) v6.toNatClampNeg 1)) fun σ9 =>
  some σ9
else
  gd v6 12 <|
  bd (upm σ 98 (upd (σ 98) v6.toNatClampNeg 2)) fun σ11 =>
  some σ11
set_option maxHeartbeats 4000000 in
theorem pX5_takeOutOne_37 {X : sT} {cs : Nat × Nat} (hX : sX X cX5_takeOutOne RX5 7 4 86) (hcs : cs.1 ≤ (sR X).cells ∧ cs.2 ≤ (sR X).slots) (σ : Mm) (l2 : Int32)  : ∀ (n : Nat) (s : Int32 × Int32 × Int32) (r : Int32), qX5_takeOutOne_37 σ l2 n s = some r → sW X 7 cs σ 94 [some (.ref (sad X 97)), none, none, some (.int r), none, none, none] [] → sW X 7 cs σ 37 [some (.ref (sad X 97)), none, some (.int l2), some (.int s.1), some (.int s.2.1), some (.int s.2.2), none] [] := by
  refine lp_ind (P := fun (s : Int32 × Int32 × Int32) (r : Int32) => sW X 7 cs σ 94 [some (.ref (sad X 97)), none, none, some (.int r), none, none, none] [] → sW X 7 cs σ 37 [some (.ref (sad X 97)), none, some (.int l2), some (.int s.1), some (.int s.2.1), some (.int s.2.2), none] []) ?_
  intro rec hrec s r h0 hk
  obtain ⟨x3, x4, x5⟩ := s
  have h : gX5_takeOutOne_37 σ l2 rec x3 x4 x5 = some r := h0
  unfold gX5_takeOutOne_37 at h
  show sW X 7 cs σ 37 [some (.ref (sad X 97)), none, some (.int l2), some (.int x3), some (.int x4), some (.int x5), none] []
  refine s_iload hX dX5_takeOutOne_37 rfl ?_
  refine s_bipush 12 hX dX5_takeOutOne_39 (by decide) ?_
  refine s_ic_ge (tgt := 94) hX dX5_takeOutOne_41 (by decide) (fun c12 => ?_) (fun c12 => ?_)
  · replace h := (if_pos c12).symm.trans h
    obtain rfl := rt1 h
    refine s_mask [true, false, false, true, false, false, false] ?_
    exact hk
  · replace h := (if_neg c12).symm.trans h
    refine s_iload_n hX dX5_takeOutOne_44 rfl ?_
    refine s_iload hX dX5_takeOutOne_45 rfl ?_
    obtain ⟨r1, hc, h⟩ := bn_some h
    refine s_callSI _ hX (cX9_has_ok (sl X)  hc) ms_RX5_83 (fun _ => rfl) (by decide) (Nat.le_of_ble_eq_true rfl) hcs dX5_takeOutOne_47 rfl ?_
    refine s_if_eq (tgt := 88) hX dX5_takeOutOne_50 (by decide) (fun c11 => ?_) (fun c11 => ?_)
    · replace h := (if_pos c11).symm.trans h
      obtain ⟨v2, ev2, h⟩ := bd_some h
      refine s_iinc v2 hX dX5_takeOutOne_88 rfl (by rw [ev2]; rfl) (by decide) ?_
      refine s_goto (tgt := 37) hX dX5_takeOutOne_91 (by decide) ?_
      refine s_mask [true, false, true, true, true, true, false] ?_
      exact hrec _ _ h hk
    · replace h := (if_neg c11).symm.trans h
      refine s_aload_n hX dX5_takeOutOne_53 rfl ?_
      refine s_iload hX dX5_takeOutOne_54 rfl ?_
      obtain ⟨r3, hc, h⟩ := bn_some h
      refine s_callVI _ hX (cX5_outsideCost_ok (sl X)  hc) SH_97 mv_RX5_90_4 (fun _ => rfl) (by decide) (Nat.le_of_ble_eq_true rfl) hcs dX5_takeOutOne_56 rfl ?_
      refine s_istore hX dX5_takeOutOne_59 (by decide) ?_
      refine s_iload hX dX5_takeOutOne_61 rfl ?_
      refine s_iload hX dX5_takeOutOne_63 rfl ?_
      refine s_ic_lt (tgt := 81) hX dX5_takeOutOne_65 (by decide) (fun c10 => ?_) (fun c10 => ?_)
      · replace h := (if_pos c10).symm.trans h
        refine s_iload hX dX5_takeOutOne_81 rfl ?_
        refine s_istore_n hX dX5_takeOutOne_83 (by decide) ?_
        refine s_iload hX dX5_takeOutOne_84 rfl ?_
        refine s_istore hX dX5_takeOutOne_86 (by decide) ?_
        obtain ⟨v4, ev4, h⟩ := bd_some h
        refine s_iinc v4 hX dX5_takeOutOne_88 rfl (by rw [ev4]; rfl) (by decide) ?_
        refine s_goto (tgt := 37) hX dX5_takeOutOne_91 (by decide) ?_
        refine s_mask [true, false, true, true, true, true, false] ?_
        exact hrec _ _ h hk
      · replace h := (if_neg c10).symm.trans h
        refine s_iload hX dX5_takeOutOne_68 rfl ?_
        refine s_iload hX dX5_takeOutOne_70 rfl ?_
        refine s_ic_ne (tgt := 88) hX dX5_takeOutOne_72 (by decide) (fun c9 => ?_) (fun c9 => ?_)
        · replace h := (if_neg c9).symm.trans h
          obtain ⟨v5, ev5, h⟩ := bd_some h
          refine s_iinc v5 hX dX5_takeOutOne_88 rfl (by rw [ev5]; rfl) (by decide) ?_
          refine s_goto (tgt := 37) hX dX5_takeOutOne_91 (by decide) ?_
          refine s_mask [true, false, true, true, true, true, false] ?_
          exact hrec _ _ h hk
        · replace h := (if_pos c9).symm.trans h
          refine s_iload hX dX5_takeOutOne_75 rfl ?_
          refine s_iload_n hX dX5_takeOutOne_77 rfl ?_
          refine s_ic_ge (tgt := 88) hX dX5_takeOutOne_78 (by decide) (fun c8 => ?_) (fun c8 => ?_)
          · replace h := (if_pos c8).symm.trans h
            obtain ⟨v6, ev6, h⟩ := bd_some h
            refine s_iinc v6 hX dX5_takeOutOne_88 rfl (by rw [ev6]; rfl) (by decide) ?_
            refine s_goto (tgt := 37) hX dX5_takeOutOne_91 (by decide) ?_
            refine s_mask [true, false, true, true, true, true, false] ?_
            exact hrec _ _ h hk
          · replace h := (if_neg c8).symm.trans h
            refine s_iload hX dX5_takeOutOne_81 rfl ?_
            refine s_istore_n hX dX5_takeOutOne_83 (by decide) ?_
            refine s_iload hX dX5_takeOutOne_84 rfl ?_
            refine s_istore hX dX5_takeOutOne_86 (by decide) ?_
            obtain ⟨v7, ev7, h⟩ := bd_some h
            refine s_iinc v7 hX dX5_takeOutOne_88 rfl (by rw [ev7]; rfl) (by decide) ?_
            refine s_goto (tgt := 37) hX dX5_takeOutOne_91 (by decide) ?_
            refine s_mask [true, false, true, true, true, true, false] ?_
            exact hrec _ _ h hk
set_option maxHeartbeats 4000000 in
theorem cX5_takeOutOne_ok (l : Launch) {σ : Mm} {σ' : Mm}  (h : fX5_takeOutOne σ = some σ') : cV l yX5_takeOutOne cX5_takeOutOne 7 4 86 (fun ad => [.ref (ad 97)]) σ σ' := by
  refine c_enterV (fun ad => [some (.ref (ad 97)), none, none, none, none, none, none]) (by decide) (fun ad => ⟨by simp [Value.category], Nat.le_of_ble_eq_true rfl⟩) (fun ad => ⟨6, rfl⟩) ?_
  intro X _ hX hret
  have hcs : ((0 : Nat), (0 : Nat)).1 ≤ (sR X).cells ∧ ((0 : Nat), (0 : Nat)).2 ≤ (sR X).slots := ⟨Nat.zero_le _, Nat.zero_le _⟩
  generalize hcs0 : ((0 : Nat), (0 : Nat)) = cs at hcs hret ⊢
  unfold fX5_takeOutOne at h
  show sW X 7 cs σ 0 [some (.ref (sad X 97)), none, none, none, none, none, none] []
  refine s_aload_n hX dX5_takeOutOne_0 rfl ?_
  obtain ⟨r1, hc, h⟩ := bn_some h
  refine s_callVI _ hX (cX5_firstOverRegisters_ok (sl X)  hc) SH_97 mv_RX5_87_4 (fun _ => rfl) (by decide) (Nat.le_of_ble_eq_true rfl) hcs dX5_takeOutOne_1 rfl ?_
  refine s_istore_n hX dX5_takeOutOne_4 (by decide) ?_
  refine s_iconst 1 hX dX5_takeOutOne_5 (by decide) ?_
  refine s_iload_n hX dX5_takeOutOne_6 rfl ?_
  refine s_ishl hX dX5_takeOutOne_7 ?_
  refine s_aload_n hX dX5_takeOutOne_8 rfl ?_
  refine s_getR (r := 87) hX fo_RX5_34_4 SH_97 rfl dX5_takeOutOne_9 ?_
  refine s_getR (r := 91) hX fo_RX5_57_1 SH_87 rfl dX5_takeOutOne_12 ?_
  refine s_iload_n hX dX5_takeOutOne_15 rfl ?_
  obtain ⟨c2, h⟩ := gd_some h
  refine s_iald hX SH_91 c2 dX5_takeOutOne_16 ?_
  refine s_ior hX dX5_takeOutOne_17 ?_
  refine s_aload_n hX dX5_takeOutOne_18 rfl ?_
  refine s_iconst 0 hX dX5_takeOutOne_19 (by decide) ?_
  obtain ⟨r3, hc, h⟩ := bn_some h
  refine s_callVI _ hX (cX5_variablesAt_ok (sl X)  hc) SH_97 mv_RX5_53_4 (fun _ => rfl) (by decide) (Nat.le_of_ble_eq_true rfl) hcs dX5_takeOutOne_20 rfl ?_
  refine s_iand hX dX5_takeOutOne_23 ?_
  obtain ⟨v4, ev4, h⟩ := bd_some h
  refine s_topi v4 ev4 ?_
  refine s_istore_n hX dX5_takeOutOne_24 (by decide) ?_
  refine s_iload_n hX dX5_takeOutOne_25 rfl ?_
  refine s_istore_n hX dX5_takeOutOne_26 (by decide) ?_
  refine s_aload_n hX dX5_takeOutOne_27 rfl ?_
  refine s_iload_n hX dX5_takeOutOne_28 rfl ?_
  obtain ⟨r5, hc, h⟩ := bn_some h
  refine s_callVI _ hX (cX5_outsideCost_ok (sl X)  hc) SH_97 mv_RX5_90_4 (fun _ => rfl) (by decide) (Nat.le_of_ble_eq_true rfl) hcs dX5_takeOutOne_29 rfl ?_
  refine s_istore hX dX5_takeOutOne_32 (by decide) ?_
  refine s_iconst 0 hX dX5_takeOutOne_34 (by decide) ?_
  refine s_istore hX dX5_takeOutOne_35 (by decide) ?_
  obtain ⟨v6, hc, h⟩ := bn_some h
  refine s_mask [true, false, true, true, true, true, false] ?_
  refine pX5_takeOutOne_37 hX hcs _ _ _ _ _ hc ?_
  refine s_aload_n hX dX5_takeOutOne_94 rfl ?_
  refine s_getR (r := 98) hX fo_RX5_9_4 SH_97 rfl dX5_takeOutOne_95 ?_
  refine s_iload_n hX dX5_takeOutOne_98 rfl ?_
  refine s_aload_n hX dX5_takeOutOne_99 rfl ?_
  refine s_iload_n hX dX5_takeOutOne_100 rfl ?_
  obtain ⟨r7, hc, h⟩ := bn_some h
  refine s_callVI _ hX (cX5_wouldBeRecomputed_ok (sl X)  hc) SH_97 mv_RX5_93_4 (fun _ => rfl) (by decide) (Nat.le_of_ble_eq_true rfl) hcs dX5_takeOutOne_101 rfl ?_
  refine s_if_eq (tgt := 111) hX dX5_takeOutOne_104 (by decide) (fun c12 => ?_) (fun c12 => ?_)
  · replace h := (if_pos c12).symm.trans h
    refine s_iconst 1 hX dX5_takeOutOne_111 (by decide) ?_
    obtain ⟨c8, h⟩ := gd_some h
    obtain ⟨σ9, eσ9, h⟩ := bd_some h
    refine s_iast hX SH_98 c8 dX5_takeOutOne_112 ?_
    refine s_mem σ9 eσ9 ?_
    obtain rfl := rt1 h
    exact hret _ _ dX5_takeOutOne_113
  · replace h := (if_neg c12).symm.trans h
    refine s_iconst 2 hX dX5_takeOutOne_107 (by decide) ?_
    refine s_goto (tgt := 112) hX dX5_takeOutOne_108 (by decide) ?_
    obtain ⟨c10, h⟩ := gd_some h
    obtain ⟨σ11, eσ11, h⟩ := bd_some h
    refine s_iast hX SH_98 c10 dX5_takeOutOne_112 ?_
    refine s_mem σ11 eσ11 ?_
    obtain rfl := rt1 h
    exact hret _ _ dX5_takeOutOne_113
def gX5_make_35 (l1 : Int32) (rec : Mm × Int32 → Option (Mm)) (σ : Mm) (x3 : Int32) : Option (Mm) :=
  if 12 ≤ x3 then
  some σ
else
  (fX9_numbersInUse σ 99 12).bind fun r1 =>
  if r1 ≤ l1 then
  some σ
else
  (fX5_takeOutOne σ).bind fun σ2 =>
  (fX5_variablesAt σ2 0).bind fun r3 =>
  (fX9_colourGreedily σ2 r3 91 12 99 12).bind fun σ4 =>
  bd (x3 + 1) fun v5 =>
  rec (σ4, v5)
def qX5_make_35 (l1 : Int32) : Nat → Mm × Int32 → Option (Mm) := lp (fun rec s => gX5_make_35 l1 rec s.1 s.2)
def fX5_make (σ : Mm) (l1 : Int32) (l2 : Int32) : Option Mm :=
  bd (upm σ 97 (upd (σ 97) 9 l1)) fun σ1 =>
  gb l2 <|
  bd (upm σ1 97 (upd (σ1 97) 12 l2)) fun σ2 =>
  (fX5_placeUsedInRegisters σ2).bind fun σ4 =>
  (fX5_variablesAt σ4 0).bind fun r5 =>
  (fX9_colourGreedily σ4 r5 91 12 99 12).bind fun σ6 =>
  (qX5_make_35 l1 FU (σ6, 0)).bind fun σ7 =>
  (fX5_variablesAt σ7 1).bind fun r8 =>
  (fX9_colourGreedily σ7 r8 91 12 100 12).bind fun σ9 =>
  (fX5_surveyLoops σ9).bind fun σ10 =>
  (fX5_promoteAll σ10).bind fun σ11 =>
  some σ11
set_option maxHeartbeats 4000000 in
theorem pX5_make_35 {X : sT} {cs : Nat × Nat} (hX : sX X cX5_make RX5 4 5 119) (hcs : cs.1 ≤ (sR X).cells ∧ cs.2 ≤ (sR X).slots) (l1 : Int32)  : ∀ (n : Nat) (s : Mm × Int32) (r : Mm), qX5_make_35 l1 n s = some r → sW X 4 cs r 81 [some (.ref (sad X 97)), none, none, none] [] → sW X 4 cs s.1 35 [some (.ref (sad X 97)), some (.int l1), none, some (.int s.2)] [] := by
  refine lp_ind (P := fun (s : Mm × Int32) (r : Mm) => sW X 4 cs r 81 [some (.ref (sad X 97)), none, none, none] [] → sW X 4 cs s.1 35 [some (.ref (sad X 97)), some (.int l1), none, some (.int s.2)] []) ?_
  intro rec hrec s r h0 hk
  obtain ⟨σ, x3⟩ := s
  have h : gX5_make_35 l1 rec σ x3 = some r := h0
  unfold gX5_make_35 at h
  show sW X 4 cs σ 35 [some (.ref (sad X 97)), some (.int l1), none, some (.int x3)] []
  refine s_iload_n hX dX5_make_35 rfl ?_
  refine s_bipush 12 hX dX5_make_36 (by decide) ?_
  refine s_ic_ge (tgt := 81) hX dX5_make_38 (by decide) (fun c7 => ?_) (fun c7 => ?_)
  · replace h := (if_pos c7).symm.trans h
    obtain rfl := rt1 h
    refine s_mask [true, false, false, false] ?_
    exact hk
  · replace h := (if_neg c7).symm.trans h
    refine s_aload_n hX dX5_make_41 rfl ?_
    refine s_getR (r := 99) hX fo_RX5_15_4 SH_97 rfl dX5_make_42 ?_
    obtain ⟨r1, hc, h⟩ := bn_some h
    refine s_callSI _ hX (cX9_numbersInUse_ok (sl X) SH_99 hc) ms_RX5_66 (fun _ => rfl) (by decide) (Nat.le_of_ble_eq_true rfl) hcs dX5_make_45 rfl ?_
    refine s_iload_n hX dX5_make_48 rfl ?_
    refine s_ic_le (tgt := 81) hX dX5_make_49 (by decide) (fun c6 => ?_) (fun c6 => ?_)
    · replace h := (if_pos c6).symm.trans h
      obtain rfl := rt1 h
      refine s_mask [true, false, false, false] ?_
      exact hk
    · replace h := (if_neg c6).symm.trans h
      refine s_aload_n hX dX5_make_52 rfl ?_
      obtain ⟨σ2, hc, h⟩ := bn_some h
      refine s_callVV _ hX (cX5_takeOutOne_ok (sl X)  hc) SH_97 mv_RX5_70_4 (fun _ => rfl) (by decide) (Nat.le_of_ble_eq_true rfl) hcs dX5_make_53 rfl ?_
      refine s_aload_n hX dX5_make_56 rfl ?_
      refine s_iconst 0 hX dX5_make_57 (by decide) ?_
      obtain ⟨r3, hc, h⟩ := bn_some h
      refine s_callVI _ hX (cX5_variablesAt_ok (sl X)  hc) SH_97 mv_RX5_53_4 (fun _ => rfl) (by decide) (Nat.le_of_ble_eq_true rfl) hcs dX5_make_58 rfl ?_
      refine s_aload_n hX dX5_make_61 rfl ?_
      refine s_getR (r := 87) hX fo_RX5_34_4 SH_97 rfl dX5_make_62 ?_
      refine s_getR (r := 91) hX fo_RX5_57_1 SH_87 rfl dX5_make_65 ?_
      refine s_aload_n hX dX5_make_68 rfl ?_
      refine s_getR (r := 99) hX fo_RX5_15_4 SH_97 rfl dX5_make_69 ?_
      obtain ⟨σ4, hc, h⟩ := bn_some h
      refine s_callSV _ hX (cX9_colourGreedily_ok (sl X) SH_91 SH_99 hc) ms_RX5_62 (fun _ => rfl) (by decide) (Nat.le_of_ble_eq_true rfl) hcs dX5_make_72 rfl ?_
      obtain ⟨v5, ev5, h⟩ := bd_some h
      refine s_iinc v5 hX dX5_make_75 rfl (by rw [ev5]; rfl) (by decide) ?_
      refine s_goto (tgt := 35) hX dX5_make_78 (by decide) ?_
      refine s_mask [true, true, false, true] ?_
      exact hrec _ _ h hk
set_option maxHeartbeats 4000000 in
theorem cX5_make_ok (l : Launch) {σ : Mm} {l1 : Int32} {l2 : Int32} {σ' : Mm}  (h : fX5_make σ l1 l2 = some σ') : cV l yX5_make cX5_make 4 5 119 (fun ad => [.ref (ad 97), .int l1, .int l2]) σ σ' := by
  refine c_enterV (fun ad => [some (.ref (ad 97)), some (.int l1), some (.int l2), none]) (by decide) (fun ad => ⟨by simp [Value.category], Nat.le_of_ble_eq_true rfl⟩) (fun ad => ⟨1, rfl⟩) ?_
  intro X _ hX hret
  have hcs : ((0 : Nat), (0 : Nat)).1 ≤ (sR X).cells ∧ ((0 : Nat), (0 : Nat)).2 ≤ (sR X).slots := ⟨Nat.zero_le _, Nat.zero_le _⟩
  generalize hcs0 : ((0 : Nat), (0 : Nat)) = cs at hcs hret ⊢
  unfold fX5_make at h
  show sW X 4 cs σ 0 [some (.ref (sad X 97)), some (.int l1), some (.int l2), none] []
  refine s_aload_n hX dX5_make_0 rfl ?_
  refine s_iload_n hX dX5_make_1 rfl ?_
  obtain ⟨σ1, eσ1, h⟩ := bd_some h
  refine s_putI hX fo_RX5_42_4 SH_97 rfl dX5_make_2 ?_
  refine s_mem σ1 eσ1 ?_
  refine s_aload_n hX dX5_make_5 rfl ?_
  refine s_iload_n hX dX5_make_6 rfl ?_
  obtain ⟨c3, h⟩ := gb_some h
  obtain ⟨σ2, eσ2, h⟩ := bd_some h
  refine s_putZ hX fo_RX5_46_4 SH_97 rfl c3 dX5_make_7 ?_
  refine s_mem σ2 eσ2 ?_
  refine s_aload_n hX dX5_make_10 rfl ?_
  obtain ⟨σ4, hc, h⟩ := bn_some h
  refine s_callVV _ hX (cX5_placeUsedInRegisters_ok (sl X)  hc) SH_97 mv_RX5_50_4 (fun _ => rfl) (by decide) (Nat.le_of_ble_eq_true rfl) hcs dX5_make_11 rfl ?_
  refine s_aload_n hX dX5_make_14 rfl ?_
  refine s_iconst 0 hX dX5_make_15 (by decide) ?_
  obtain ⟨r5, hc, h⟩ := bn_some h
  refine s_callVI _ hX (cX5_variablesAt_ok (sl X)  hc) SH_97 mv_RX5_53_4 (fun _ => rfl) (by decide) (Nat.le_of_ble_eq_true rfl) hcs dX5_make_16 rfl ?_
  refine s_aload_n hX dX5_make_19 rfl ?_
  refine s_getR (r := 87) hX fo_RX5_34_4 SH_97 rfl dX5_make_20 ?_
  refine s_getR (r := 91) hX fo_RX5_57_1 SH_87 rfl dX5_make_23 ?_
  refine s_aload_n hX dX5_make_26 rfl ?_
  refine s_getR (r := 99) hX fo_RX5_15_4 SH_97 rfl dX5_make_27 ?_
  obtain ⟨σ6, hc, h⟩ := bn_some h
  refine s_callSV _ hX (cX9_colourGreedily_ok (sl X) SH_91 SH_99 hc) ms_RX5_62 (fun _ => rfl) (by decide) (Nat.le_of_ble_eq_true rfl) hcs dX5_make_30 rfl ?_
  refine s_iconst 0 hX dX5_make_33 (by decide) ?_
  refine s_istore_n hX dX5_make_34 (by decide) ?_
  obtain ⟨σ7, hc, h⟩ := bn_some h
  refine s_mask [true, true, false, true] ?_
  refine pX5_make_35 hX hcs _ _ _ _ hc ?_
  refine s_aload_n hX dX5_make_81 rfl ?_
  refine s_iconst 1 hX dX5_make_82 (by decide) ?_
  obtain ⟨r8, hc, h⟩ := bn_some h
  refine s_callVI _ hX (cX5_variablesAt_ok (sl X)  hc) SH_97 mv_RX5_53_4 (fun _ => rfl) (by decide) (Nat.le_of_ble_eq_true rfl) hcs dX5_make_83 rfl ?_
  refine s_aload_n hX dX5_make_86 rfl ?_
  refine s_getR (r := 87) hX fo_RX5_34_4 SH_97 rfl dX5_make_87 ?_
  refine s_getR (r := 91) hX fo_RX5_57_1 SH_87 rfl dX5_make_90 ?_
  refine s_aload_n hX dX5_make_93 rfl ?_
  refine s_getR (r := 100) hX fo_RX5_18_4 SH_97 rfl dX5_make_94 ?_
  obtain ⟨σ9, hc, h⟩ := bn_some h
  refine s_callSV _ hX (cX9_colourGreedily_ok (sl X) SH_91 SH_100 hc) ms_RX5_62 (fun _ => rfl) (by decide) (Nat.le_of_ble_eq_true rfl) hcs dX5_make_97 rfl ?_
  refine s_aload_n hX dX5_make_100 rfl ?_
  obtain ⟨σ10, hc, h⟩ := bn_some h
  refine s_callVV _ hX (cX5_surveyLoops_ok (sl X)  hc) SH_97 mv_RX5_73_4 (fun _ => rfl) (by decide) (Nat.le_of_ble_eq_true rfl) hcs dX5_make_101 rfl ?_
  refine s_aload_n hX dX5_make_104 rfl ?_
  obtain ⟨σ11, hc, h⟩ := bn_some h
  refine s_callVV _ hX (cX5_promoteAll_ok (sl X)  hc) SH_97 mv_RX5_76_4 (fun _ => rfl) (by decide) (Nat.le_of_ble_eq_true rfl) hcs dX5_make_105 rfl ?_
  obtain rfl := rt1 h
  exact hret _ _ dX5_make_108
