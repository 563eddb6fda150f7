def fX1_mentionWeight (σ : Mm) (l1 : Int32) (l2 : Int32) : Option Int32 :=
  bd ((l1 * 12) + l2) fun v1 =>
  gd l1 8 <|
  bd (4 + 5 * l1.toNatClampNeg) fun k3 =>
  gd v1 96 <|
  gd v1 96 <|
  some ((σ k3 9) * ((σ 89 v1.toNatClampNeg) + (σ 90 v1.toNatClampNeg)))
set_option maxHeartbeats 4000000 in
theorem cX1_mentionWeight_ok (l : Launch) {σ : Mm} {l1 : Int32} {l2 : Int32} {r : Int32}  (h : fX1_mentionWeight σ l1 l2 = some r) : cI l yX1_mentionWeight cX1_mentionWeight 4 .int 0 0 (fun ad => [.ref (ad 87), .int l1, .int l2]) σ r σ := by
  refine c_enterI (fun ad => [some (.ref (ad 87)), some (.int l1), some (.int l2), none]) (by decide) (fun ad => ⟨by simp [Value.category], Nat.le_of_ble_eq_true rfl⟩) (fun ad => ⟨1, rfl⟩) ?_
  intro X _ hX hret
  have hcs : ((0 : Nat), (0 : Nat)).1 ≤ (sR X).cells ∧ ((0 : Nat), (0 : Nat)).2 ≤ (sR X).slots := ⟨Nat.zero_le _, Nat.zero_le _⟩
  generalize hcs0 : ((0 : Nat), (0 : Nat)) = cs at hcs hret ⊢
  unfold fX1_mentionWeight at h
  show sW X 4 cs σ 0 [some (.ref (sad X 87)), some (.int l1), some (.int l2), none] []
  refine s_iload_n hX dX1_mentionWeight_0 rfl ?_
  refine s_bipush 12 hX dX1_mentionWeight_1 (by decide) ?_
  refine s_imul hX dX1_mentionWeight_3 ?_
  refine s_iload_n hX dX1_mentionWeight_4 rfl ?_
  refine s_iadd hX dX1_mentionWeight_5 ?_
  obtain ⟨v1, ev1, h⟩ := bd_some h
  refine s_topi v1 ev1 ?_
  refine s_istore_n hX dX1_mentionWeight_6 (by decide) ?_
  refine s_aload_n hX dX1_mentionWeight_7 rfl ?_
  refine s_getR (r := 1) hX fo_RX1_30_1 SH_87 rfl dX1_mentionWeight_8 ?_
  refine s_getR (r := 2) hX fo_RX1_59_6 SH_1 rfl dX1_mentionWeight_11 ?_
  refine s_iload_n hX dX1_mentionWeight_14 rfl ?_
  obtain ⟨c2, h⟩ := gd_some h
  obtain ⟨k3, ek3, h⟩ := bd_some h
  have Bk3 : isB k3 := Or.inl ⟨_, vp_lt c2, ek3⟩
  refine s_aaldP hX c2 dX1_mentionWeight_15 ?_
  refine s_topr k3 ek3 ?_
  refine s_getI hX fo_RX1_124_0 (isB_0 Bk3) rfl dX1_mentionWeight_16 ?_
  refine s_aload_n hX dX1_mentionWeight_19 rfl ?_
  refine s_getR (r := 89) hX fo_RX1_15_1 SH_87 rfl dX1_mentionWeight_20 ?_
  refine s_iload_n hX dX1_mentionWeight_23 rfl ?_
  obtain ⟨c4, h⟩ := gd_some h
  refine s_iald hX SH_89 c4 dX1_mentionWeight_24 ?_
  refine s_aload_n hX dX1_mentionWeight_25 rfl ?_
  refine s_getR (r := 90) hX fo_RX1_18_1 SH_87 rfl dX1_mentionWeight_26 ?_
  refine s_iload_n hX dX1_mentionWeight_29 rfl ?_
  obtain ⟨c5, h⟩ := gd_some h
  refine s_iald hX SH_90 c5 dX1_mentionWeight_30 ?_
  refine s_iadd hX dX1_mentionWeight_31 ?_
  refine s_imul hX dX1_mentionWeight_32 ?_
  obtain rfl := rt1 h
  exact hret _ _ (nzi _) dX1_mentionWeight_33
def gX1_memoryCost_4 (σ : Mm) (l1 : Int32) (rec : Int32 × Int32 → Option (Int32)) (x2 : Int32) (x3 : Int32) : Option (Int32) :=
  if (σ 1 2) ≤ x3 then
  some x2
else
  (fX1_mentionWeight σ x3 l1).bind fun r1 =>
  bd (x2 + r1) fun v2 =>
  bd (x3 + 1) fun v3 =>
  rec (v2, v3)
def qX1_memoryCost_4 (σ : Mm) (l1 : Int32) : Nat → Int32 × Int32 → Option (Int32) := lp (fun rec s => gX1_memoryCost_4 σ l1 rec s.1 s.2)
def fX1_memoryCost (σ : Mm) (l1 : Int32) : Option Int32 :=
  (qX1_memoryCost_4 σ l1 FU (0, 0)).bind fun v1 =>
  (fX1_liveAtBeginning σ 0).bind fun r2 =>
  (fX9_has σ r2 l1).bind fun r3 =>
  if r3 = 0 then
  some (3 * v1)
else
  gd 0 8 <|
  bd (4 + 5 * (Int32.toNatClampNeg 0)) fun k5 =>
  bd (v1 + (σ k5 9)) fun v6 =>
  some (3 * v6)
set_option maxHeartbeats 4000000 in
theorem pX1_memoryCost_4 {X : sT} {cs : Nat × Nat} (hX : sX X cX1_memoryCost RX1 4 1 23) (hcs : cs.1 ≤ (sR X).cells ∧ cs.2 ≤ (sR X).slots) (σ : Mm) (l1 : Int32)  : ∀ (n : Nat) (s : Int32 × Int32) (r : Int32), qX1_memoryCost_4 σ l1 n s = some r → sW X 4 cs σ 30 [some (.ref (sad X 87)), some (.int l1), some (.int r), none] [] → sW X 4 cs σ 4 [some (.ref (sad X 87)), some (.int l1), some (.int s.1), some (.int s.2)] [] := by
  refine lp_ind (P := fun (s : Int32 × Int32) (r : Int32) => sW X 4 cs σ 30 [some (.ref (sad X 87)), some (.int l1), some (.int r), none] [] → sW X 4 cs σ 4 [some (.ref (sad X 87)), some (.int l1), some (.int s.1), some (.int s.2)] []) ?_
  intro rec hrec s r h0 hk
  obtain ⟨x2, x3⟩ := s
  have h : gX1_memoryCost_4 σ l1 rec x2 x3 = some r := h0
  unfold gX1_memoryCost_4 at h
  show sW X 4 cs σ 4 [some (.ref (sad X 87)), some (.int l1), some (.int x2), some (.int x3)] []
  refine s_iload_n hX dX1_memoryCost_4 rfl ?_
  refine s_aload_n hX dX1_memoryCost_5 rfl ?_
  refine s_getR (r := 1) hX fo_RX1_30_1 SH_87 rfl dX1_memoryCost_6 ?_
  refine s_getI hX fo_RX1_49_6 SH_1 rfl dX1_memoryCost_9 ?_
  refine s_ic_ge (tgt := 30) hX dX1_memoryCost_12 (by decide) (fun c4 => ?_) (fun c4 => ?_)
  · replace h := (if_pos c4).symm.trans h
    obtain rfl := rt1 h
    refine s_mask [true, true, true, false] ?_
    exact hk
  · replace h := (if_neg c4).symm.trans h
    refine s_iload_n hX dX1_memoryCost_15 rfl ?_
    refine s_aload_n hX dX1_memoryCost_16 rfl ?_
    refine s_iload_n hX dX1_memoryCost_17 rfl ?_
    refine s_iload_n hX dX1_memoryCost_18 rfl ?_
    obtain ⟨r1, hc, h⟩ := bn_some h
    refine s_callVI _ hX (cX1_mentionWeight_ok (sl X)  hc) SH_87 mv_RX1_121_1 (fun _ => rfl) (by decide) (Nat.le_of_ble_eq_true rfl) hcs dX1_memoryCost_19 rfl ?_
    refine s_iadd hX dX1_memoryCost_22 ?_
    obtain ⟨v2, ev2, h⟩ := bd_some h
    refine s_topi v2 ev2 ?_
    refine s_istore_n hX dX1_memoryCost_23 (by decide) ?_
    obtain ⟨v3, ev3, h⟩ := bd_some h
    refine s_iinc v3 hX dX1_memoryCost_24 rfl (by rw [ev3]; rfl) (by decide) ?_
    refine s_goto (tgt := 4) hX dX1_memoryCost_27 (by decide) ?_
    refine s_mask [true, true, true, true] ?_
    exact hrec _ _ h hk
set_option maxHeartbeats 4000000 in
theorem cX1_memoryCost_ok (l : Launch) {σ : Mm} {l1 : Int32} {r : Int32}  (h : fX1_memoryCost σ l1 = some r) : cI l yX1_memoryCost cX1_memoryCost 4 .int 1 23 (fun ad => [.ref (ad 87), .int l1]) σ r σ := by
  refine c_enterI (fun ad => [some (.ref (ad 87)), some (.int l1), none, none]) (by decide) (fun ad => ⟨by simp [Value.category], Nat.le_of_ble_eq_true rfl⟩) (fun ad => ⟨2, rfl⟩) ?_
  intro X _ hX hret
  have hcs : ((0 : Nat), (0 : Nat)).1 ≤ (sR X).cells ∧ ((0 : Nat), (0 : Nat)).2 ≤ (sR X).slots := ⟨Nat.zero_le _, Nat.zero_le _⟩
  generalize hcs0 : ((0 : Nat), (0 : Nat)) = cs at hcs hret ⊢
  unfold fX1_memoryCost at h
  show sW X 4 cs σ 0 [some (.ref (sad X 87)), some (.int l1), none, none] []
  refine s_iconst 0 hX dX1_memoryCost_0 (by decide) ?_
  refine s_istore_n hX dX1_memoryCost_1 (by decide) ?_
  refine s_iconst 0 hX dX1_memoryCost_2 (by decide) ?_
  refine s_istore_n hX dX1_memoryCost_3 (by decide) ?_
  obtain ⟨v1, hc, h⟩ := bn_some h
  refine s_mask [true, true, true, true] ?_
  refine pX1_memoryCost_4 hX hcs _ _ _ _ _ hc ?_
  refine s_aload_n hX dX1_memoryCost_30 rfl ?_
  refine s_iconst 0 hX dX1_memoryCost_31 (by decide) ?_
  obtain ⟨r2, hc, h⟩ := bn_some h
  refine s_callVI _ hX (cX1_liveAtBeginning_ok (sl X)  hc) SH_87 mv_RX1_76_1 (fun _ => rfl) (by decide) (Nat.le_of_ble_eq_true rfl) hcs dX1_memoryCost_32 rfl ?_
  refine s_iload_n hX dX1_memoryCost_35 rfl ?_
  obtain ⟨r3, hc, h⟩ := bn_some h
  refine s_callSI _ hX (cX9_has_ok (sl X)  hc) ms_RX1_72 (fun _ => rfl) (by decide) (Nat.le_of_ble_eq_true rfl) hcs dX1_memoryCost_36 rfl ?_
  refine s_if_eq (tgt := 57) hX dX1_memoryCost_39 (by decide) (fun c7 => ?_) (fun c7 => ?_)
  · replace h := (if_pos c7).symm.trans h
    refine s_iconst 3 hX dX1_memoryCost_57 (by decide) ?_
    refine s_iload_n hX dX1_memoryCost_58 rfl ?_
    refine s_imul hX dX1_memoryCost_59 ?_
    obtain rfl := rt1 h
    exact hret _ _ (nzi _) dX1_memoryCost_60
  · replace h := (if_neg c7).symm.trans h
    refine s_iload_n hX dX1_memoryCost_42 rfl ?_
    refine s_aload_n hX dX1_memoryCost_43 rfl ?_
    refine s_getR (r := 1) hX fo_RX1_30_1 SH_87 rfl dX1_memoryCost_44 ?_
    refine s_getR (r := 2) hX fo_RX1_59_6 SH_1 rfl dX1_memoryCost_47 ?_
    refine s_iconst 0 hX dX1_memoryCost_50 (by decide) ?_
    obtain ⟨c4, h⟩ := gd_some h
    obtain ⟨k5, ek5, h⟩ := bd_some h
    have Bk5 : isB k5 := Or.inl ⟨_, vp_lt c4, ek5⟩
    refine s_aaldP hX c4 dX1_memoryCost_51 ?_
    refine s_topr k5 ek5 ?_
    refine s_getI hX fo_RX1_124_0 (isB_0 Bk5) rfl dX1_memoryCost_52 ?_
    refine s_iadd hX dX1_memoryCost_55 ?_
    obtain ⟨v6, ev6, h⟩ := bd_some h
    refine s_topi v6 ev6 ?_
    refine s_istore_n hX dX1_memoryCost_56 (by decide) ?_
    refine s_iconst 3 hX dX1_memoryCost_57 (by decide) ?_
    refine s_iload_n hX dX1_memoryCost_58 rfl ?_
    refine s_imul hX dX1_memoryCost_59 ?_
    obtain rfl := rt1 h
    exact hret _ _ (nzi _) dX1_memoryCost_60
def gX1_countedIn_4 (σ : Mm) (l0 : Int32) (a1 : Nat) (n1 : Nat) (rec : Int32 × Int32 → Option (Int32)) (x2 : Int32) (x3 : Int32) : Option (Int32) :=
  if 12 ≤ x3 then
  some x2
else
  gd ((l0 * 12) + x3) n1 <|
  if (σ a1 ((l0 * 12) + x3).toNatClampNeg) ≤ 0 then
  bd (x3 + 1) fun v2 =>
  rec (x2, v2)
else
  bd (x2 ||| (1 <<< (x3 &&& 31))) fun v3 =>
  bd (x3 + 1) fun v4 =>
  rec (v3, v4)
def qX1_countedIn_4 (σ : Mm) (l0 : Int32) (a1 : Nat) (n1 : Nat) : Nat → Int32 × Int32 → Option (Int32) := lp (fun rec s => gX1_countedIn_4 σ l0 a1 n1 rec s.1 s.2)
def fX1_countedIn (σ : Mm) (l0 : Int32) (a1 : Nat) (n1 : Nat) : Option Int32 :=
  (qX1_countedIn_4 σ l0 a1 n1 FU (0, 0)).bind fun v1 =>
  some v1
set_option maxHeartbeats 4000000 in
theorem pX1_countedIn_4 {X : sT} {cs : Nat × Nat} (hX : sX X cX1_countedIn RX1 4 0 0) (hcs : cs.1 ≤ (sR X).cells ∧ cs.2 ≤ (sR X).slots) (σ : Mm) (l0 : Int32) (a1 : Nat) (n1 : Nat) (ha1 : SH[a1]? = some (0, 0, n1, [])) : ∀ (n : Nat) (s : Int32 × Int32) (r : Int32), qX1_countedIn_4 σ l0 a1 n1 n s = some r → sW X 4 cs σ 33 [none, none, some (.int r), none] [] → sW X 4 cs σ 4 [some (.int l0), some (.ref (sad X a1)), some (.int s.1), some (.int s.2)] [] := by
  refine lp_ind (P := fun (s : Int32 × Int32) (r : Int32) => sW X 4 cs σ 33 [none, none, some (.int r), none] [] → sW X 4 cs σ 4 [some (.int l0), some (.ref (sad X a1)), some (.int s.1), some (.int s.2)] []) ?_
  intro rec hrec s r h0 hk
  obtain ⟨x2, x3⟩ := s
  have h : gX1_countedIn_4 σ l0 a1 n1 rec x2 x3 = some r := h0
  unfold gX1_countedIn_4 at h
  show sW X 4 cs σ 4 [some (.int l0), some (.ref (sad X a1)), some (.int x2), some (.int x3)] []
  refine s_iload_n hX dX1_countedIn_4 rfl ?_
  refine s_bipush 12 hX dX1_countedIn_5 (by decide) ?_
  refine s_ic_ge (tgt := 33) hX dX1_countedIn_7 (by decide) (fun c6 => ?_) (fun c6 => ?_)
  · replace h := (if_pos c6).symm.trans h
    obtain rfl := rt1 h
    refine s_mask [false, false, true, false] ?_
    exact hk
  · replace h := (if_neg c6).symm.trans h
    refine s_aload_n hX dX1_countedIn_10 rfl ?_
    refine s_iload_n hX dX1_countedIn_11 rfl ?_
    refine s_bipush 12 hX dX1_countedIn_12 (by decide) ?_
    refine s_imul hX dX1_countedIn_14 ?_
    refine s_iload_n hX dX1_countedIn_15 rfl ?_
    refine s_iadd hX dX1_countedIn_16 ?_
    obtain ⟨c1, h⟩ := gd_some h
    refine s_iald hX ha1 c1 dX1_countedIn_17 ?_
    refine s_if_le (tgt := 27) hX dX1_countedIn_18 (by decide) (fun c5 => ?_) (fun c5 => ?_)
    · replace h := (if_pos c5).symm.trans h
      obtain ⟨v2, ev2, h⟩ := bd_some h
      refine s_iinc v2 hX dX1_countedIn_27 rfl (by rw [ev2]; rfl) (by decide) ?_
      refine s_goto (tgt := 4) hX dX1_countedIn_30 (by decide) ?_
      refine s_mask [true, true, true, true] ?_
      exact hrec _ _ h hk
    · replace h := (if_neg c5).symm.trans h
      refine s_iload_n hX dX1_countedIn_21 rfl ?_
      refine s_iconst 1 hX dX1_countedIn_22 (by decide) ?_
      refine s_iload_n hX dX1_countedIn_23 rfl ?_
      refine s_ishl hX dX1_countedIn_24 ?_
      refine s_ior hX dX1_countedIn_25 ?_
      obtain ⟨v3, ev3, h⟩ := bd_some h
      refine s_topi v3 ev3 ?_
      refine s_istore_n hX dX1_countedIn_26 (by decide) ?_
      obtain ⟨v4, ev4, h⟩ := bd_some h
      refine s_iinc v4 hX dX1_countedIn_27 rfl (by rw [ev4]; rfl) (by decide) ?_
      refine s_goto (tgt := 4) hX dX1_countedIn_30 (by decide) ?_
      refine s_mask [true, true, true, true] ?_
      exact hrec _ _ h hk
set_option maxHeartbeats 4000000 in
theorem cX1_countedIn_ok (l : Launch) {σ : Mm} {l0 : Int32} {a1 : Nat} {n1 : Nat} {r : Int32} (ha1 : SH[a1]? = some (0, 0, n1, [])) (h : fX1_countedIn σ l0 a1 n1 = some r) : cI l yX1_countedIn cX1_countedIn 4 .int 0 0 (fun ad => [.int l0, .ref (ad a1)]) σ r σ := by
  refine c_enterI (fun ad => [some (.int l0), some (.ref (ad a1)), none, none]) (by decide) (fun ad => ⟨by simp [Value.category], Nat.le_of_ble_eq_true rfl⟩) (fun ad => ⟨2, rfl⟩) ?_
  intro X _ hX hret
  have hcs : ((0 : Nat), (0 : Nat)).1 ≤ (sR X).cells ∧ ((0 : Nat), (0 : Nat)).2 ≤ (sR X).slots := ⟨Nat.zero_le _, Nat.zero_le _⟩
  generalize hcs0 : ((0 : Nat), (0 : Nat)) = cs at hcs hret ⊢
  unfold fX1_countedIn at h
  show sW X 4 cs σ 0 [some (.int l0), some (.ref (sad X a1)), none, none] []
  refine s_iconst 0 hX dX1_countedIn_0 (by decide) ?_
  refine s_istore_n hX dX1_countedIn_1 (by decide) ?_
  refine s_iconst 0 hX dX1_countedIn_2 (by decide) ?_
  refine s_istore_n hX dX1_countedIn_3 (by decide) ?_
  obtain ⟨v1, hc, h⟩ := bn_some h
  refine s_mask [true, true, true, true] ?_
  refine pX1_countedIn_4 hX hcs _ _ _ _ ha1 _ _ _ hc ?_
  refine s_iload_n hX dX1_countedIn_33 rfl ?_
  obtain rfl := rt1 h
  exact hret _ _ (nzi _) dX1_countedIn_34
def fX1_definedIn (σ : Mm) (l1 : Int32) : Option Int32 :=
  (fX1_countedIn σ l1 90 96).bind fun r1 =>
  some r1
set_option maxHeartbeats 4000000 in
theorem cX1_definedIn_ok (l : Launch) {σ : Mm} {l1 : Int32} {r : Int32}  (h : fX1_definedIn σ l1 = some r) : cI l yX1_definedIn cX1_definedIn 2 .int 1 23 (fun ad => [.ref (ad 87), .int l1]) σ r σ := by
  refine c_enterI (fun ad => [some (.ref (ad 87)), some (.int l1)]) (by decide) (fun ad => ⟨by simp [Value.category], Nat.le_of_ble_eq_true rfl⟩) (fun ad => ⟨0, rfl⟩) ?_
  intro X _ hX hret
  have hcs : ((0 : Nat), (0 : Nat)).1 ≤ (sR X).cells ∧ ((0 : Nat), (0 : Nat)).2 ≤ (sR X).slots := ⟨Nat.zero_le _, Nat.zero_le _⟩
  generalize hcs0 : ((0 : Nat), (0 : Nat)) = cs at hcs hret ⊢
  unfold fX1_definedIn at h
  show sW X 2 cs σ 0 [some (.ref (sad X 87)), some (.int l1)] []
  refine s_iload_n hX dX1_definedIn_0 rfl ?_
  refine s_aload_n hX dX1_definedIn_1 rfl ?_
  refine s_getR (r := 90) hX fo_RX1_18_1 SH_87 rfl dX1_definedIn_2 ?_
  obtain ⟨r1, hc, h⟩ := bn_some h
  refine s_callSI _ hX (cX1_countedIn_ok (sl X) SH_90 hc) ms_RX1_114 (fun _ => rfl) (by decide) (Nat.le_of_ble_eq_true rfl) hcs dX1_definedIn_5 rfl ?_
  obtain rfl := rt1 h
  exact hret _ _ (nzi _) dX1_definedIn_8
def fX1_mentionedIn (σ : Mm) (l1 : Int32) : Option Int32 :=
  (fX1_countedIn σ l1 89 96).bind fun r1 =>
  (fX1_definedIn σ l1).bind fun r2 =>
  some (r1 ||| r2)
set_option maxHeartbeats 4000000 in
theorem cX1_mentionedIn_ok (l : Launch) {σ : Mm} {l1 : Int32} {r : Int32}  (h : fX1_mentionedIn σ l1 = some r) : cI l yX1_mentionedIn cX1_mentionedIn 2 .int 2 44 (fun ad => [.ref (ad 87), .int l1]) σ r σ := by
  refine c_enterI (fun ad => [some (.ref (ad 87)), some (.int l1)]) (by decide) (fun ad => ⟨by simp [Value.category], Nat.le_of_ble_eq_true rfl⟩) (fun ad => ⟨0, rfl⟩) ?_
  intro X _ hX hret
  have hcs : ((0 : Nat), (0 : Nat)).1 ≤ (sR X).cells ∧ ((0 : Nat), (0 : Nat)).2 ≤ (sR X).slots := ⟨Nat.zero_le _, Nat.zero_le _⟩
  generalize hcs0 : ((0 : Nat), (0 : Nat)) = cs at hcs hret ⊢
  unfold fX1_mentionedIn at h
  show sW X 2 cs σ 0 [some (.ref (sad X 87)), some (.int l1)] []
  refine s_iload_n hX dX1_mentionedIn_0 rfl ?_
  refine s_aload_n hX dX1_mentionedIn_1 rfl ?_
  refine s_getR (r := 89) hX fo_RX1_15_1 SH_87 rfl dX1_mentionedIn_2 ?_
  obtain ⟨r1, hc, h⟩ := bn_some h
  refine s_callSI _ hX (cX1_countedIn_ok (sl X) SH_89 hc) ms_RX1_114 (fun _ => rfl) (by decide) (Nat.le_of_ble_eq_true rfl) hcs dX1_mentionedIn_5 rfl ?_
  refine s_aload_n hX dX1_mentionedIn_8 rfl ?_
  refine s_iload_n hX dX1_mentionedIn_9 rfl ?_
  obtain ⟨r2, hc, h⟩ := bn_some h
  refine s_callVI _ hX (cX1_definedIn_ok (sl X)  hc) SH_87 mv_RX1_118_1 (fun _ => rfl) (by decide) (Nat.le_of_ble_eq_true rfl) hcs dX1_mentionedIn_10 rfl ?_
  refine s_ior hX dX1_mentionedIn_13 ?_
  obtain rfl := rt1 h
  exact hret _ _ (nzi _) dX1_mentionedIn_14
def gX1_usedVariables_4 (σ : Mm) (rec : Int32 × Int32 → Option (Int32)) (x1 : Int32) (x2 : Int32) : Option (Int32) :=
  if (σ 1 2) ≤ x2 then
  some x1
else
  (fX1_mentionedIn σ x2).bind fun r1 =>
  bd (x1 ||| r1) fun v2 =>
  bd (x2 + 1) fun v3 =>
  rec (v2, v3)
def qX1_usedVariables_4 (σ : Mm) : Nat → Int32 × Int32 → Option (Int32) := lp (fun rec s => gX1_usedVariables_4 σ rec s.1 s.2)
def fX1_usedVariables (σ : Mm) : Option Int32 :=
  (qX1_usedVariables_4 σ FU (0, 0)).bind fun v1 =>
  some v1
set_option maxHeartbeats 4000000 in
theorem pX1_usedVariables_4 {X : sT} {cs : Nat × Nat} (hX : sX X cX1_usedVariables RX1 3 3 65) (hcs : cs.1 ≤ (sR X).cells ∧ cs.2 ≤ (sR X).slots) (σ : Mm)  : ∀ (n : Nat) (s : Int32 × Int32) (r : Int32), qX1_usedVariables_4 σ n s = some r → sW X 3 cs σ 29 [none, some (.int r), none] [] → sW X 3 cs σ 4 [some (.ref (sad X 87)), some (.int s.1), some (.int s.2)] [] := by
  refine lp_ind (P := fun (s : Int32 × Int32) (r : Int32) => sW X 3 cs σ 29 [none, some (.int r), none] [] → sW X 3 cs σ 4 [some (.ref (sad X 87)), some (.int s.1), some (.int s.2)] []) ?_
  intro rec hrec s r h0 hk
  obtain ⟨x1, x2⟩ := s
  have h : gX1_usedVariables_4 σ rec x1 x2 = some r := h0
  unfold gX1_usedVariables_4 at h
  show sW X 3 cs σ 4 [some (.ref (sad X 87)), some (.int x1), some (.int x2)] []
  refine s_iload_n hX dX1_usedVariables_4 rfl ?_
  refine s_aload_n hX dX1_usedVariables_5 rfl ?_
  refine s_getR (r := 1) hX fo_RX1_30_1 SH_87 rfl dX1_usedVariables_6 ?_
  refine s_getI hX fo_RX1_49_6 SH_1 rfl dX1_usedVariables_9 ?_
  refine s_ic_ge (tgt := 29) hX dX1_usedVariables_12 (by decide) (fun c4 => ?_) (fun c4 => ?_)
  · replace h := (if_pos c4).symm.trans h
    obtain rfl := rt1 h
    refine s_mask [false, true, false] ?_
    exact hk
  · replace h := (if_neg c4).symm.trans h
    refine s_iload_n hX dX1_usedVariables_15 rfl ?_
    refine s_aload_n hX dX1_usedVariables_16 rfl ?_
    refine s_iload_n hX dX1_usedVariables_17 rfl ?_
    obtain ⟨r1, hc, h⟩ := bn_some h
    refine s_callVI _ hX (cX1_mentionedIn_ok (sl X)  hc) SH_87 mv_RX1_111_1 (fun _ => rfl) (by decide) (Nat.le_of_ble_eq_true rfl) hcs dX1_usedVariables_18 rfl ?_
    refine s_ior hX dX1_usedVariables_21 ?_
    obtain ⟨v2, ev2, h⟩ := bd_some h
    refine s_topi v2 ev2 ?_
    refine s_istore_n hX dX1_usedVariables_22 (by decide) ?_
    obtain ⟨v3, ev3, h⟩ := bd_some h
    refine s_iinc v3 hX dX1_usedVariables_23 rfl (by rw [ev3]; rfl) (by decide) ?_
    refine s_goto (tgt := 4) hX dX1_usedVariables_26 (by decide) ?_
    refine s_mask [true, true, true] ?_
    exact hrec _ _ h hk
set_option maxHeartbeats 4000000 in
theorem cX1_usedVariables_ok (l : Launch) {σ : Mm} {r : Int32}  (h : fX1_usedVariables σ = some r) : cI l yX1_usedVariables cX1_usedVariables 3 .int 3 65 (fun ad => [.ref (ad 87)]) σ r σ := by
  refine c_enterI (fun ad => [some (.ref (ad 87)), none, none]) (by decide) (fun ad => ⟨by simp [Value.category], Nat.le_of_ble_eq_true rfl⟩) (fun ad => ⟨2, rfl⟩) ?_
  intro X _ hX hret
  have hcs : ((0 : Nat), (0 : Nat)).1 ≤ (sR X).cells ∧ ((0 : Nat), (0 : Nat)).2 ≤ (sR X).slots := ⟨Nat.zero_le _, Nat.zero_le _⟩
  generalize hcs0 : ((0 : Nat), (0 : Nat)) = cs at hcs hret ⊢
  unfold fX1_usedVariables at h
  show sW X 3 cs σ 0 [some (.ref (sad X 87)), none, none] []
  refine s_iconst 0 hX dX1_usedVariables_0 (by decide) ?_
  refine s_istore_n hX dX1_usedVariables_1 (by decide) ?_
  refine s_iconst 0 hX dX1_usedVariables_2 (by decide) ?_
  refine s_istore_n hX dX1_usedVariables_3 (by decide) ?_
  obtain ⟨v1, hc, h⟩ := bn_some h
  refine s_mask [true, true, true] ?_
  refine pX1_usedVariables_4 hX hcs _ _ _ _ hc ?_
  refine s_iload_n hX dX1_usedVariables_29 rfl ?_
  obtain rfl := rt1 h
  exact hret _ _ (nzi _) dX1_usedVariables_30
def gX5_placeUsedInRegisters_10 (l1 : Int32) (rec : Mm × Int32 → Option (Mm)) (σ : Mm) (x2 : Int32) : Option (Mm) :=
  if 12 ≤ x2 then
  some σ
else
  (fX9_has σ l1 x2).bind fun r1 =>
  if r1 = 0 then
  gd x2 12 <|
  bd (upm σ 98 (upd (σ 98) x2.toNatClampNeg (-1))) fun σ3 =>
  bd (x2 + 1) fun v4 =>
  rec (σ3, v4)
else
  gd x2 12 <|
  bd (upm σ 98 (upd (σ 98) x2.toNatClampNeg 0)) fun σ6 =>
  bd (x2 + 1) fun v7 =>
  rec (σ6, v7)
def qX5_placeUsedInRegisters_10 (l1 : Int32) : Nat → Mm × Int32 → Option (Mm) := lp (fun rec s => gX5_placeUsedInRegisters_10 l1 rec s.1 s.2)
def fX5_placeUsedInRegisters (σ : Mm) : Option Mm :=
  (fX1_usedVariables σ).bind fun r1 =>
  (qX5_placeUsedInRegisters_10 r1 FU (σ, 0)).bind fun σ2 =>
  some σ2
set_option maxHeartbeats 4000000 in
theorem pX5_placeUsedInRegisters_10 {X : sT} {cs : Nat × Nat} (hX : sX X cX5_placeUsedInRegisters RX5 3 4 87) (hcs : cs.1 ≤ (sR X).cells ∧ cs.2 ≤ (sR X).slots) (l1 : Int32)  : ∀ (n : Nat) (s : Mm × Int32) (r : Mm), qX5_placeUsedInRegisters_10 l1 n s = some r → sW X 3 cs r 41 [none, none, none] [] → sW X 3 cs s.1 10 [some (.ref (sad X 97)), some (.int l1), some (.int s.2)] [] := by
  refine lp_ind (P := fun (s : Mm × Int32) (r : Mm) => sW X 3 cs r 41 [none, none, none] [] → sW X 3 cs s.1 10 [some (.ref (sad X 97)), some (.int l1), some (.int s.2)] []) ?_
  intro rec hrec s r h0 hk
  obtain ⟨σ, x2⟩ := s
  have h : gX5_placeUsedInRegisters_10 l1 rec σ x2 = some r := h0
  unfold gX5_placeUsedInRegisters_10 at h
  show sW X 3 cs σ 10 [some (.ref (sad X 97)), some (.int l1), some (.int x2)] []
  refine s_iload_n hX dX5_placeUsedInRegisters_10 rfl ?_
  refine s_bipush 12 hX dX5_placeUsedInRegisters_11 (by decide) ?_
  refine s_ic_ge (tgt := 41) hX dX5_placeUsedInRegisters_13 (by decide) (fun c9 => ?_) (fun c9 => ?_)
  · replace h := (if_pos c9).symm.trans h
    obtain rfl := rt1 h
    refine s_mask [false, false, false] ?_
    exact hk
  · replace h := (if_neg c9).symm.trans h
    refine s_aload_n hX dX5_placeUsedInRegisters_16 rfl ?_
    refine s_getR (r := 98) hX fo_RX5_9_4 SH_97 rfl dX5_placeUsedInRegisters_17 ?_
    refine s_iload_n hX dX5_placeUsedInRegisters_20 rfl ?_
    refine s_iload_n hX dX5_placeUsedInRegisters_21 rfl ?_
    refine s_iload_n hX dX5_placeUsedInRegisters_22 rfl ?_
    obtain ⟨r1, hc, h⟩ := bn_some h
    refine s_callSI _ hX (cX9_has_ok (sl X)  hc) ms_RX5_83 (fun _ => rfl) (by decide) (Nat.le_of_ble_eq_true rfl) hcs dX5_placeUsedInRegisters_23 rfl ?_
    refine s_if_eq (tgt := 33) hX dX5_placeUsedInRegisters_26 (by decide) (fun c8 => ?_) (fun c8 => ?_)
    · replace h := (if_pos c8).symm.trans h
      refine s_iconst (-1) hX dX5_placeUsedInRegisters_33 (by decide) ?_
      obtain ⟨c2, h⟩ := gd_some h
      obtain ⟨σ3, eσ3, h⟩ := bd_some h
      refine s_iast hX SH_98 c2 dX5_placeUsedInRegisters_34 ?_
      refine s_mem σ3 eσ3 ?_
      obtain ⟨v4, ev4, h⟩ := bd_some h
      refine s_iinc v4 hX dX5_placeUsedInRegisters_35 rfl (by rw [ev4]; rfl) (by decide) ?_
      refine s_goto (tgt := 10) hX dX5_placeUsedInRegisters_38 (by decide) ?_
      refine s_mask [true, true, true] ?_
      exact hrec _ _ h hk
    · replace h := (if_neg c8).symm.trans h
      refine s_iconst 0 hX dX5_placeUsedInRegisters_29 (by decide) ?_
      refine s_goto (tgt := 34) hX dX5_placeUsedInRegisters_30 (by decide) ?_
      obtain ⟨c5, h⟩ := gd_some h
      obtain ⟨σ6, eσ6, h⟩ := bd_some h
      refine s_iast hX SH_98 c5 dX5_placeUsedInRegisters_34 ?_
      refine s_mem σ6 eσ6 ?_
      obtain ⟨v7, ev7, h⟩ := bd_some h
      refine s_iinc v7 hX dX5_placeUsedInRegisters_35 rfl (by rw [ev7]; rfl) (by decide) ?_
      refine s_goto (tgt := 10) hX dX5_placeUsedInRegisters_38 (by decide) ?_
      refine s_mask [true, true, true] ?_
      exact hrec _ _ h hk
set_option maxHeartbeats 4000000 in
theorem cX5_placeUsedInRegisters_ok (l : Launch) {σ : Mm} {σ' : Mm}  (h : fX5_placeUsedInRegisters σ = some σ') : cV l yX5_placeUsedInRegisters cX5_placeUsedInRegisters 3 4 87 (fun ad => [.ref (ad 97)]) σ σ' := by
  refine c_enterV (fun ad => [some (.ref (ad 97)), none, none]) (by decide) (fun ad => ⟨by simp [Value.category], Nat.le_of_ble_eq_true rfl⟩) (fun ad => ⟨2, rfl⟩) ?_
  intro X _ hX hret
  have hcs : ((0 : Nat), (0 : Nat)).1 ≤ (sR X).cells ∧ ((0 : Nat), (0 : Nat)).2 ≤ (sR X).slots := ⟨Nat.zero_le _, Nat.zero_le _⟩
  generalize hcs0 : ((0 : Nat), (0 : Nat)) = cs at hcs hret ⊢
  unfold fX5_placeUsedInRegisters at h
  show sW X 3 cs σ 0 [some (.ref (sad X 97)), none, none] []
  refine s_aload_n hX dX5_placeUsedInRegisters_0 rfl ?_
  refine s_getR (r := 87) hX fo_RX5_34_4 SH_97 rfl dX5_placeUsedInRegisters_1 ?_
  obtain ⟨r1, hc, h⟩ := bn_some h
  refine s_callVI _ hX (cX1_usedVariables_ok (sl X)  hc) SH_87 mv_RX5_79_1 (fun _ => rfl) (by decide) (Nat.le_of_ble_eq_true rfl) hcs dX5_placeUsedInRegisters_4 rfl ?_
  refine s_istore_n hX dX5_placeUsedInRegisters_7 (by decide) ?_
  refine s_iconst 0 hX dX5_placeUsedInRegisters_8 (by decide) ?_
  refine s_istore_n hX dX5_placeUsedInRegisters_9 (by decide) ?_
  obtain ⟨σ2, hc, h⟩ := bn_some h
  refine s_mask [true, true, true] ?_
  refine pX5_placeUsedInRegisters_10 hX hcs _ _ _ _ hc ?_
  obtain rfl := rt1 h
  exact hret _ _ dX5_placeUsedInRegisters_41
def gX5_variablesAt_4 (σ : Mm) (l1 : Int32) (rec : Int32 × Int32 → Option (Int32)) (x2 : Int32) (x3 : Int32) : Option (Int32) :=
  if 12 ≤ x3 then
  some x2
else
  gd x3 12 <|
  if (σ 98 x3.toNatClampNeg) = l1 then
  bd (x2 ||| (1 <<< (x3 &&& 31))) fun v3 =>
  bd (x3 + 1) fun v4 =>
  rec (v3, v4)
else
  bd (x3 + 1) fun v2 =>
  rec (x2, v2)
def qX5_variablesAt_4 (σ : Mm) (l1 : Int32) : Nat → Int32 × Int32 → Option (Int32) := lp (fun rec s => gX5_variablesAt_4 σ l1 rec s.1 s.2)
def fX5_variablesAt (σ : Mm) (l1 : Int32) : Option Int32 :=
  (qX5_variablesAt_4 σ l1 FU (0, 0)).bind fun v1 =>
  some v1
set_option maxHeartbeats 4000000 in
theorem pX5_variablesAt_4 {X : sT} {cs : Nat × Nat} (hX : sX X cX5_variablesAt RX5 4 0 0) (hcs : cs.1 ≤ (sR X).cells ∧ cs.2 ≤ (sR X).slots) (σ : Mm) (l1 : Int32)  : ∀ (n : Nat) (s : Int32 × Int32) (r : Int32), qX5_variablesAt_4 σ l1 n s = some r → sW X 4 cs σ 32 [none, none, some (.int r), none] [] → sW X 4 cs σ 4 [some (.ref (sad X 97)), some (.int l1), some (.int s.1), some (.int s.2)] [] := by
  refine lp_ind (P := fun (s : Int32 × Int32) (r : Int32) => sW X 4 cs σ 32 [none, none, some (.int r), none] [] → sW X 4 cs σ 4 [some (.ref (sad X 97)), some (.int l1), some (.int s.1), some (.int s.2)] []) ?_
  intro rec hrec s r h0 hk
  obtain ⟨x2, x3⟩ := s
  have h : gX5_variablesAt_4 σ l1 rec x2 x3 = some r := h0
  unfold gX5_variablesAt_4 at h
  show sW X 4 cs σ 4 [some (.ref (sad X 97)), some (.int l1), some (.int x2), some (.int x3)] []
  refine s_iload_n hX dX5_variablesAt_4 rfl ?_
  refine s_bipush 12 hX dX5_variablesAt_5 (by decide) ?_
  refine s_ic_ge (tgt := 32) hX dX5_variablesAt_7 (by decide) (fun c6 => ?_) (fun c6 => ?_)
  · replace h := (if_pos c6).symm.trans h
    obtain rfl := rt1 h
    refine s_mask [false, false, true, false] ?_
    exact hk
  · replace h := (if_neg c6).symm.trans h
    refine s_aload_n hX dX5_variablesAt_10 rfl ?_
    refine s_getR (r := 98) hX fo_RX5_9_4 SH_97 rfl dX5_variablesAt_11 ?_
    refine s_iload_n hX dX5_variablesAt_14 rfl ?_
    obtain ⟨c1, h⟩ := gd_some h
    refine s_iald hX SH_98 c1 dX5_variablesAt_15 ?_
    refine s_iload_n hX dX5_variablesAt_16 rfl ?_
    refine s_ic_ne (tgt := 26) hX dX5_variablesAt_17 (by decide) (fun c5 => ?_) (fun c5 => ?_)
    · replace h := (if_neg c5).symm.trans h
      obtain ⟨v2, ev2, h⟩ := bd_some h
      refine s_iinc v2 hX dX5_variablesAt_26 rfl (by rw [ev2]; rfl) (by decide) ?_
      refine s_goto (tgt := 4) hX dX5_variablesAt_29 (by decide) ?_
      refine s_mask [true, true, true, true] ?_
      exact hrec _ _ h hk
    · replace h := (if_pos c5).symm.trans h
      refine s_iload_n hX dX5_variablesAt_20 rfl ?_
      refine s_iconst 1 hX dX5_variablesAt_21 (by decide) ?_
      refine s_iload_n hX dX5_variablesAt_22 rfl ?_
      refine s_ishl hX dX5_variablesAt_23 ?_
      refine s_ior hX dX5_variablesAt_24 ?_
      obtain ⟨v3, ev3, h⟩ := bd_some h
      refine s_topi v3 ev3 ?_
      refine s_istore_n hX dX5_variablesAt_25 (by decide) ?_
      obtain ⟨v4, ev4, h⟩ := bd_some h
      refine s_iinc v4 hX dX5_variablesAt_26 rfl (by rw [ev4]; rfl) (by decide) ?_
      refine s_goto (tgt := 4) hX dX5_variablesAt_29 (by decide) ?_
      refine s_mask [true, true, true, true] ?_
      exact hrec _ _ h hk
set_option maxHeartbeats 4000000 in
theorem cX5_variablesAt_ok (l : Launch) {σ : Mm} {l1 : Int32} {r : Int32}  (h : fX5_variablesAt σ l1 = some r) : cI l yX5_variablesAt cX5_variablesAt 4 .int 0 0 (fun ad => [.ref (ad 97), .int l1]) σ r σ := by
  refine c_enterI (fun ad => [some (.ref (ad 97)), some (.int l1), none, none]) (by decide) (fun ad => ⟨by simp [Value.category], Nat.le_of_ble_eq_true rfl⟩) (fun ad => ⟨2, rfl⟩) ?_
  intro X _ hX hret
  have hcs : ((0 : Nat), (0 : Nat)).1 ≤ (sR X).cells ∧ ((0 : Nat), (0 : Nat)).2 ≤ (sR X).slots := ⟨Nat.zero_le _, Nat.zero_le _⟩
  generalize hcs0 : ((0 : Nat), (0 : Nat)) = cs at hcs hret ⊢
  unfold fX5_variablesAt at h
  show sW X 4 cs σ 0 [some (.ref (sad X 97)), some (.int l1), none, none] []
  refine s_iconst 0 hX dX5_variablesAt_0 (by decide) ?_
  refine s_istore_n hX dX5_variablesAt_1 (by decide) ?_
  refine s_iconst 0 hX dX5_variablesAt_2 (by decide) ?_
  refine s_istore_n hX dX5_variablesAt_3 (by decide) ?_
  obtain ⟨v1, hc, h⟩ := bn_some h
  refine s_mask [true, true, true, true] ?_
  refine pX5_variablesAt_4 hX hcs _ _ _ _ _ hc ?_
  refine s_iload_n hX dX5_variablesAt_32 rfl ?_
  obtain rfl := rt1 h
  exact hret _ _ (nzi _) dX5_variablesAt_33
def gX9_lowestMissing_2 (σ : Mm) (l0 : Int32) (rec : Int32 → Option (Int32)) (x1 : Int32) : Option (Int32) :=
  if 12 ≤ x1 then
  some x1
else
  (fX9_has σ l0 x1).bind fun r1 =>
  if r1 = 0 then
  some x1
else
  bd (x1 + 1) fun v2 =>
  rec v2
def qX9_lowestMissing_2 (σ : Mm) (l0 : Int32) : Nat → Int32 → Option (Int32) := lp (fun rec s => gX9_lowestMissing_2 σ l0 rec s)
def fX9_lowestMissing (σ : Mm) (l0 : Int32) : Option Int32 :=
  (qX9_lowestMissing_2 σ l0 FU 0).bind fun v1 =>
  some v1
set_option maxHeartbeats 4000000 in
theorem pX9_lowestMissing_2 {X : sT} {cs : Nat × Nat} (hX : sX X cX9_lowestMissing RX9 2 1 21) (hcs : cs.1 ≤ (sR X).cells ∧ cs.2 ≤ (sR X).slots) (σ : Mm) (l0 : Int32)  : ∀ (n : Nat) (s : Int32) (r : Int32), qX9_lowestMissing_2 σ l0 n s = some r → sW X 2 cs σ 22 [none, some (.int r)] [] → sW X 2 cs σ 2 [some (.int l0), some (.int s)] [] := by
  refine lp_ind (P := fun (s : Int32) (r : Int32) => sW X 2 cs σ 22 [none, some (.int r)] [] → sW X 2 cs σ 2 [some (.int l0), some (.int s)] []) ?_
  intro rec hrec s r h0 hk
  obtain ⟨x1, e0⟩ : ∃ z, z = s := ⟨s, rfl⟩
  subst e0
  have h : gX9_lowestMissing_2 σ l0 rec x1 = some r := h0
  unfold gX9_lowestMissing_2 at h
  show sW X 2 cs σ 2 [some (.int l0), some (.int x1)] []
  refine s_iload_n hX dX9_lowestMissing_2 rfl ?_
  refine s_bipush 12 hX dX9_lowestMissing_3 (by decide) ?_
  refine s_ic_ge (tgt := 22) hX dX9_lowestMissing_5 (by decide) (fun c4 => ?_) (fun c4 => ?_)
  · replace h := (if_pos c4).symm.trans h
    obtain rfl := rt1 h
    refine s_mask [false, true] ?_
    exact hk
  · replace h := (if_neg c4).symm.trans h
    refine s_iload_n hX dX9_lowestMissing_8 rfl ?_
    refine s_iload_n hX dX9_lowestMissing_9 rfl ?_
    obtain ⟨r1, hc, h⟩ := bn_some h
    refine s_callSI _ hX (cX9_has_ok (sl X)  hc) ms_RX9_376 (fun _ => rfl) (by decide) (Nat.le_of_ble_eq_true rfl) hcs dX9_lowestMissing_10 rfl ?_
    refine s_if_eq (tgt := 22) hX dX9_lowestMissing_13 (by decide) (fun c3 => ?_) (fun c3 => ?_)
    · replace h := (if_pos c3).symm.trans h
      obtain rfl := rt1 h
      refine s_mask [false, true] ?_
      exact hk
    · replace h := (if_neg c3).symm.trans h
      obtain ⟨v2, ev2, h⟩ := bd_some h
      refine s_iinc v2 hX dX9_lowestMissing_16 rfl (by rw [ev2]; rfl) (by decide) ?_
      refine s_goto (tgt := 2) hX dX9_lowestMissing_19 (by decide) ?_
      refine s_mask [true, true] ?_
      exact hrec _ _ h hk
set_option maxHeartbeats 4000000 in
theorem cX9_lowestMissing_ok (l : Launch) {σ : Mm} {l0 : Int32} {r : Int32}  (h : fX9_lowestMissing σ l0 = some r) : cI l yX9_lowestMissing cX9_lowestMissing 2 .int 1 21 (fun ad => [.int l0]) σ r σ := by
  refine c_enterI (fun ad => [some (.int l0), none]) (by decide) (fun ad => ⟨by simp [Value.category], Nat.le_of_ble_eq_true rfl⟩) (fun ad => ⟨1, rfl⟩) ?_
  intro X _ hX hret
  have hcs : ((0 : Nat), (0 : Nat)).1 ≤ (sR X).cells ∧ ((0 : Nat), (0 : Nat)).2 ≤ (sR X).slots := ⟨Nat.zero_le _, Nat.zero_le _⟩
  generalize hcs0 : ((0 : Nat), (0 : Nat)) = cs at hcs hret ⊢
  unfold fX9_lowestMissing at h
  show sW X 2 cs σ 0 [some (.int l0), none] []
  refine s_iconst 0 hX dX9_lowestMissing_0 (by decide) ?_
  refine s_istore_n hX dX9_lowestMissing_1 (by decide) ?_
  obtain ⟨v1, hc, h⟩ := bn_some h
  refine s_mask [true, true] ?_
  refine pX9_lowestMissing_2 hX hcs _ _ _ _ _ hc ?_
  refine s_iload_n hX dX9_lowestMissing_22 rfl ?_
  obtain rfl := rt1 h
  exact hret _ _ (nzi _) dX9_lowestMissing_23
def gX9_colourGreedily_26 (σ : Mm) (l0 : Int32) (a1 : Nat) (n1 : Nat) (a2 : Nat) (n2 : Nat) (l3 : Int32) (rec : Int32 × Int32 → Option (Int32)) (x4 : Int32) (x5 : Int32) : Option (Int32) :=
  if l3 ≤ x5 then
  some x4
else
  gd l3 n1 <|
  (fX9_has σ (l0 &&& (σ a1 l3.toNatClampNeg)) x5).bind fun r2 =>
  if r2 = 0 then
  bd (x5 + 1) fun v3 =>
  rec (x4, v3)
else
  gd x5 n2 <|
  bd (x4 ||| (1 <<< ((σ a2 x5.toNatClampNeg) &&& 31))) fun v5 =>
  bd (x5 + 1) fun v6 =>
  rec (v5, v6)
def qX9_colourGreedily_26 (σ : Mm) (l0 : Int32) (a1 : Nat) (n1 : Nat) (a2 : Nat) (n2 : Nat) (l3 : Int32) : Nat → Int32 × Int32 → Option (Int32) := lp (fun rec s => gX9_colourGreedily_26 σ l0 a1 n1 a2 n2 l3 rec s.1 s.2)
def gX9_colourGreedily_2 (l0 : Int32) (a1 : Nat) (n1 : Nat) (a2 : Nat) (n2 : Nat) (rec : Mm × Int32 → Option (Mm)) (σ : Mm) (x3 : Int32) : Option (Mm) :=
  if 12 ≤ x3 then
  some σ
else
  gd x3 n2 <|
  bd (upm σ a2 (upd (σ a2) x3.toNatClampNeg (-1))) fun σ2 =>
  (fX9_has σ2 l0 x3).bind fun r3 =>
  if r3 = 0 then
  bd (x3 + 1) fun v4 =>
  rec (σ2, v4)
else
  (qX9_colourGreedily_26 σ2 l0 a1 n1 a2 n2 x3 FU (0, 0)).bind fun v5 =>
  (fX9_lowestMissing σ2 v5).bind fun r6 =>
  gd x3 n2 <|
  bd (upm σ2 a2 (upd (σ2 a2) x3.toNatClampNeg r6)) fun σ8 =>
  bd (x3 + 1) fun v9 =>
  rec (σ8, v9)
def qX9_colourGreedily_2 (l0 : Int32) (a1 : Nat) (n1 : Nat) (a2 : Nat) (n2 : Nat) : Nat → Mm × Int32 → Option (Mm) := lp (fun rec s => gX9_colourGreedily_2 l0 a1 n1 a2 n2 rec s.1 s.2)
def fX9_colourGreedily (σ : Mm) (l0 : Int32) (a1 : Nat) (n1 : Nat) (a2 : Nat) (n2 : Nat) : Option Mm :=
  (qX9_colourGreedily_2 l0 a1 n1 a2 n2 FU (σ, 0)).bind fun σ1 =>
  some σ1
set_option maxHeartbeats 4000000 in
theorem pX9_colourGreedily_26 {X : sT} {cs : Nat × Nat} (hX : sX X cX9_colourGreedily RX9 6 2 42) (hcs : cs.1 ≤ (sR X).cells ∧ cs.2 ≤ (sR X).slots) (σ : Mm) (l0 : Int32) (a1 : Nat) (n1 : Nat) (a2 : Nat) (n2 : Nat) (l3 : Int32) (ha1 : SH[a1]? = some (0, 0, n1, [])) (ha2 : SH[a2]? = some (0, 0, n2, [])) : ∀ (n : Nat) (s : Int32 × Int32) (r : Int32), qX9_colourGreedily_26 σ l0 a1 n1 a2 n2 l3 n s = some r → sW X 6 cs σ 62 [some (.int l0), some (.ref (sad X a1)), some (.ref (sad X a2)), some (.int l3), some (.int r), none] [] → sW X 6 cs σ 26 [some (.int l0), some (.ref (sad X a1)), some (.ref (sad X a2)), some (.int l3), some (.int s.1), some (.int s.2)] [] := by
  refine lp_ind (P := fun (s : Int32 × Int32) (r : Int32) => sW X 6 cs σ 62 [some (.int l0), some (.ref (sad X a1)), some (.ref (sad X a2)), some (.int l3), some (.int r), none] [] → sW X 6 cs σ 26 [some (.int l0), some (.ref (sad X a1)), some (.ref (sad X a2)), some (.int l3), some (.int s.1), some (.int s.2)] []) ?_
  intro rec hrec s r h0 hk
  obtain ⟨x4, x5⟩ := s
  have h : gX9_colourGreedily_26 σ l0 a1 n1 a2 n2 l3 rec x4 x5 = some r := h0
  unfold gX9_colourGreedily_26 at h
  show sW X 6 cs σ 26 [some (.int l0), some (.ref (sad X a1)), some (.ref (sad X a2)), some (.int l3), some (.int x4), some (.int x5)] []
  refine s_iload hX dX9_colourGreedily_26 rfl ?_
  refine s_iload_n hX dX9_colourGreedily_28 rfl ?_
  refine s_ic_ge (tgt := 62) hX dX9_colourGreedily_29 (by decide) (fun c8 => ?_) (fun c8 => ?_)
  · replace h := (if_pos c8).symm.trans h
    obtain rfl := rt1 h
    refine s_mask [true, true, true, true, true, false] ?_
    exact hk
  · replace h := (if_neg c8).symm.trans h
    refine s_iload_n hX dX9_colourGreedily_32 rfl ?_
    refine s_aload_n hX dX9_colourGreedily_33 rfl ?_
    refine s_iload_n hX dX9_colourGreedily_34 rfl ?_
    obtain ⟨c1, h⟩ := gd_some h
    refine s_iald hX ha1 c1 dX9_colourGreedily_35 ?_
    refine s_iand hX dX9_colourGreedily_36 ?_
    refine s_iload hX dX9_colourGreedily_37 rfl ?_
    obtain ⟨r2, hc, h⟩ := bn_some h
    refine s_callSI _ hX (cX9_has_ok (sl X)  hc) ms_RX9_376 (fun _ => rfl) (by decide) (Nat.le_of_ble_eq_true rfl) hcs dX9_colourGreedily_39 rfl ?_
    refine s_if_eq (tgt := 56) hX dX9_colourGreedily_42 (by decide) (fun c7 => ?_) (fun c7 => ?_)
    · replace h := (if_pos c7).symm.trans h
      obtain ⟨v3, ev3, h⟩ := bd_some h
      refine s_iinc v3 hX dX9_colourGreedily_56 rfl (by rw [ev3]; rfl) (by decide) ?_
      refine s_goto (tgt := 26) hX dX9_colourGreedily_59 (by decide) ?_
      refine s_mask [true, true, true, true, true, true] ?_
      exact hrec _ _ h hk
    · replace h := (if_neg c7).symm.trans h
      refine s_iload hX dX9_colourGreedily_45 rfl ?_
      refine s_iconst 1 hX dX9_colourGreedily_47 (by decide) ?_
      refine s_aload_n hX dX9_colourGreedily_48 rfl ?_
      refine s_iload hX dX9_colourGreedily_49 rfl ?_
      obtain ⟨c4, h⟩ := gd_some h
      refine s_iald hX ha2 c4 dX9_colourGreedily_51 ?_
      refine s_ishl hX dX9_colourGreedily_52 ?_
      refine s_ior hX dX9_colourGreedily_53 ?_
      obtain ⟨v5, ev5, h⟩ := bd_some h
      refine s_topi v5 ev5 ?_
      refine s_istore hX dX9_colourGreedily_54 (by decide) ?_
      obtain ⟨v6, ev6, h⟩ := bd_some h
      refine s_iinc v6 hX dX9_colourGreedily_56 rfl (by rw [ev6]; rfl) (by decide) ?_
      refine s_goto (tgt := 26) hX dX9_colourGreedily_59 (by decide) ?_
      refine s_mask [true, true, true, true, true, true] ?_
      exact hrec _ _ h hk
set_option maxHeartbeats 4000000 in
theorem pX9_colourGreedily_2 {X : sT} {cs : Nat × Nat} (hX : sX X cX9_colourGreedily RX9 6 2 42) (hcs : cs.1 ≤ (sR X).cells ∧ cs.2 ≤ (sR X).slots) (l0 : Int32) (a1 : Nat) (n1 : Nat) (a2 : Nat) (n2 : Nat) (ha1 : SH[a1]? = some (0, 0, n1, [])) (ha2 : SH[a2]? = some (0, 0, n2, [])) : ∀ (n : Nat) (s : Mm × Int32) (r : Mm), qX9_colourGreedily_2 l0 a1 n1 a2 n2 n s = some r → sW X 6 cs r 76 [none, none, none, none, none, none] [] → sW X 6 cs s.1 2 [some (.int l0), some (.ref (sad X a1)), some (.ref (sad X a2)), some (.int s.2), none, none] [] := by
  refine lp_ind (P := fun (s : Mm × Int32) (r : Mm) => sW X 6 cs r 76 [none, none, none, none, none, none] [] → sW X 6 cs s.1 2 [some (.int l0), some (.ref (sad X a1)), some (.ref (sad X a2)), some (.int s.2), none, none] []) ?_
  intro rec hrec s r h0 hk
  obtain ⟨σ, x3⟩ := s
  have h : gX9_colourGreedily_2 l0 a1 n1 a2 n2 rec σ x3 = some r := h0
  unfold gX9_colourGreedily_2 at h
  show sW X 6 cs σ 2 [some (.int l0), some (.ref (sad X a1)), some (.ref (sad X a2)), some (.int x3), none, none] []
  refine s_iload_n hX dX9_colourGreedily_2 rfl ?_
  refine s_bipush 12 hX dX9_colourGreedily_3 (by decide) ?_
  refine s_ic_ge (tgt := 76) hX dX9_colourGreedily_5 (by decide) (fun c11 => ?_) (fun c11 => ?_)
  · replace h := (if_pos c11).symm.trans h
    obtain rfl := rt1 h
    refine s_mask [false, false, false, false, false, false] ?_
    exact hk
  · replace h := (if_neg c11).symm.trans h
    refine s_aload_n hX dX9_colourGreedily_8 rfl ?_
    refine s_iload_n hX dX9_colourGreedily_9 rfl ?_
    refine s_iconst (-1) hX dX9_colourGreedily_10 (by decide) ?_
    obtain ⟨c1, h⟩ := gd_some h
    obtain ⟨σ2, eσ2, h⟩ := bd_some h
    refine s_iast hX ha2 c1 dX9_colourGreedily_11 ?_
    refine s_mem σ2 eσ2 ?_
    refine s_iload_n hX dX9_colourGreedily_12 rfl ?_
    refine s_iload_n hX dX9_colourGreedily_13 rfl ?_
    obtain ⟨r3, hc, h⟩ := bn_some h
    refine s_callSI _ hX (cX9_has_ok (sl X)  hc) ms_RX9_376 (fun _ => rfl) (by decide) (Nat.le_of_ble_eq_true rfl) hcs dX9_colourGreedily_14 rfl ?_
    refine s_if_eq (tgt := 70) hX dX9_colourGreedily_17 (by decide) (fun c10 => ?_) (fun c10 => ?_)
    · replace h := (if_pos c10).symm.trans h
      obtain ⟨v4, ev4, h⟩ := bd_some h
      refine s_iinc v4 hX dX9_colourGreedily_70 rfl (by rw [ev4]; rfl) (by decide) ?_
      refine s_goto (tgt := 2) hX dX9_colourGreedily_73 (by decide) ?_
      refine s_mask [true, true, true, true, false, false] ?_
      exact hrec _ _ h hk
    · replace h := (if_neg c10).symm.trans h
      refine s_iconst 0 hX dX9_colourGreedily_20 (by decide) ?_
      refine s_istore hX dX9_colourGreedily_21 (by decide) ?_
      refine s_iconst 0 hX dX9_colourGreedily_23 (by decide) ?_
      refine s_istore hX dX9_colourGreedily_24 (by decide) ?_
      obtain ⟨v5, hc, h⟩ := bn_some h
      refine s_mask [true, true, true, true, true, true] ?_
      refine pX9_colourGreedily_26 hX hcs _ _ _ _ _ _ _ ha1 ha2 _ _ _ hc ?_
      refine s_aload_n hX dX9_colourGreedily_62 rfl ?_
      refine s_iload_n hX dX9_colourGreedily_63 rfl ?_
      refine s_iload hX dX9_colourGreedily_64 rfl ?_
      obtain ⟨r6, hc, h⟩ := bn_some h
      refine s_callSI _ hX (cX9_lowestMissing_ok (sl X)  hc) ms_RX9_380 (fun _ => rfl) (by decide) (Nat.le_of_ble_eq_true rfl) hcs dX9_colourGreedily_66 rfl ?_
      obtain ⟨c7, h⟩ := gd_some h
      obtain ⟨σ8, eσ8, h⟩ := bd_some h
      refine s_iast hX ha2 c7 dX9_colourGreedily_69 ?_
      refine s_mem σ8 eσ8 ?_
      obtain ⟨v9, ev9, h⟩ := bd_some h
      refine s_iinc v9 hX dX9_colourGreedily_70 rfl (by rw [ev9]; rfl) (by decide) ?_
      refine s_goto (tgt := 2) hX dX9_colourGreedily_73 (by decide) ?_
      refine s_mask [true, true, true, true, false, false] ?_
      exact hrec _ _ h hk
set_option maxHeartbeats 4000000 in
theorem cX9_colourGreedily_ok (l : Launch) {σ : Mm} {l0 : Int32} {a1 : Nat} {n1 : Nat} {a2 : Nat} {n2 : Nat} {σ' : Mm} (ha1 : SH[a1]? = some (0, 0, n1, [])) (ha2 : SH[a2]? = some (0, 0, n2, [])) (h : fX9_colourGreedily σ l0 a1 n1 a2 n2 = some σ') : cV l yX9_colourGreedily cX9_colourGreedily 6 2 42 (fun ad => [.int l0, .ref (ad a1), .ref (ad a2)]) σ σ' := by
  refine c_enterV (fun ad => [some (.int l0), some (.ref (ad a1)), some (.ref (ad a2)), none, none, none]) (by decide) (fun ad => ⟨by simp [Value.category], Nat.le_of_ble_eq_true rfl⟩) (fun ad => ⟨3, rfl⟩) ?_
  intro X _ hX hret
  have hcs : ((0 : Nat), (0 : Nat)).1 ≤ (sR X).cells ∧ ((0 : Nat), (0 : Nat)).2 ≤ (sR X).slots := ⟨Nat.zero_le _, Nat.zero_le _⟩
  generalize hcs0 : ((0 : Nat), (0 : Nat)) = cs at hcs hret ⊢
  unfold fX9_colourGreedily at h
  show sW X 6 cs σ 0 [some (.int l0), some (.ref (sad X a1)), some (.ref (sad X a2)), none, none, none] []
  refine s_iconst 0 hX dX9_colourGreedily_0 (by decide) ?_
  refine s_istore_n hX dX9_colourGreedily_1 (by decide) ?_
  obtain ⟨σ1, hc, h⟩ := bn_some h
  refine s_mask [true, true, true, true, false, false] ?_
  refine pX9_colourGreedily_2 hX hcs _ _ _ _ _ ha1 ha2 _ _ _ hc ?_
  obtain rfl := rt1 h
  exact hret _ _ dX9_colourGreedily_76
def fX2_contains (σ : Mm) (l1 : Int32) (l2 : Int32) : Option Int32 :=
  if l2 = (-1) then
  some 0
else
  gd l1 8 <|
  (fX9_has σ (σ 96 l1.toNatClampNeg) l2).bind fun r2 =>
  if r2 = 0 then
  some 0
else
  some 1
set_option maxHeartbeats 4000000 in
theorem cX2_contains_ok (l : Launch) {σ : Mm} {l1 : Int32} {l2 : Int32} {r : Int32}  (h : fX2_contains σ l1 l2 = some r) : cI l yX2_contains cX2_contains 3 .boolean 1 21 (fun ad => [.ref (ad 94), .int l1, .int l2]) σ r σ := by
  refine c_enterI (fun ad => [some (.ref (ad 94)), some (.int l1), some (.int l2)]) (by decide) (fun ad => ⟨by simp [Value.category], Nat.le_of_ble_eq_true rfl⟩) (fun ad => ⟨0, rfl⟩) ?_
  intro X _ hX hret
  have hcs : ((0 : Nat), (0 : Nat)).1 ≤ (sR X).cells ∧ ((0 : Nat), (0 : Nat)).2 ≤ (sR X).slots := ⟨Nat.zero_le _, Nat.zero_le _⟩
  generalize hcs0 : ((0 : Nat), (0 : Nat)) = cs at hcs hret ⊢
  unfold fX2_contains at h
  show sW X 3 cs σ 0 [some (.ref (sad X 94)), some (.int l1), some (.int l2)] []
  refine s_iload_n hX dX2_contains_0 rfl ?_
  refine s_iconst (-1) hX dX2_contains_1 (by decide) ?_
  refine s_ic_eq (tgt := 22) hX dX2_contains_2 (by decide) (fun c4 => ?_) (fun c4 => ?_)
  · replace h := (if_pos c4).symm.trans h
    refine s_iconst 0 hX dX2_contains_22 (by decide) ?_
    obtain rfl := rt1 h
    exact hret _ _ nz0 dX2_contains_23
  · replace h := (if_neg c4).symm.trans h
    refine s_aload_n hX dX2_contains_5 rfl ?_
    refine s_getR (r := 96) hX fo_RX2_15_2 SH_94 rfl dX2_contains_6 ?_
    refine s_iload_n hX dX2_contains_9 rfl ?_
    obtain ⟨c1, h⟩ := gd_some h
    refine s_iald hX SH_96 c1 dX2_contains_10 ?_
    refine s_iload_n hX dX2_contains_11 rfl ?_
    obtain ⟨r2, hc, h⟩ := bn_some h
    refine s_callSI _ hX (cX9_has_ok (sl X)  hc) ms_RX2_42 (fun _ => rfl) (by decide) (Nat.le_of_ble_eq_true rfl) hcs dX2_contains_12 rfl ?_
    refine s_if_eq (tgt := 22) hX dX2_contains_15 (by decide) (fun c3 => ?_) (fun c3 => ?_)
    · replace h := (if_pos c3).symm.trans h
      refine s_iconst 0 hX dX2_contains_22 (by decide) ?_
      obtain rfl := rt1 h
      exact hret _ _ nz0 dX2_contains_23
    · replace h := (if_neg c3).symm.trans h
      refine s_iconst 1 hX dX2_contains_18 (by decide) ?_
      refine s_goto (tgt := 23) hX dX2_contains_19 (by decide) ?_
      obtain rfl := rt1 h
      exact hret _ _ nz1 dX2_contains_23
def gX5_surveyLoops_29 (l1 : Int32) (rec : Mm × Int32 → Option (Mm)) (σ : Mm) (x2 : Int32) : Option (Mm) :=
  if (σ 1 2) ≤ x2 then
  some σ
else
  (fX2_contains σ l1 x2).bind fun r1 =>
  if r1 = 0 then
  bd (x2 + 1) fun v2 =>
  rec (σ, v2)
else
  gd l1 8 <|
  (fX1_liveAtBeginning σ x2).bind fun r4 =>
  (fX1_mentionedIn σ x2).bind fun r5 =>
  gd l1 8 <|
  bd (upm σ 102 (upd (σ 102) l1.toNatClampNeg ((σ 102 l1.toNatClampNeg) ||| (r4 ||| r5)))) fun σ7 =>
  gd l1 8 <|
  (fX1_definedIn σ7 x2).bind fun r9 =>
  gd l1 8 <|
  bd (upm σ7 103 (upd (σ7 103) l1.toNatClampNeg ((σ7 103 l1.toNatClampNeg) ||| r9))) fun σ11 =>
  bd (x2 + 1) fun v12 =>
  rec (σ11, v12)
def qX5_surveyLoops_29 (l1 : Int32) : Nat → Mm × Int32 → Option (Mm) := lp (fun rec s => gX5_surveyLoops_29 l1 rec s.1 s.2)
def gX5_surveyLoops_2  (rec : Mm × Int32 → Option (Mm)) (σ : Mm) (x1 : Int32) : Option (Mm) :=
  if (σ 94 3) ≤ x1 then
  some σ
else
  gd x1 8 <|
  bd (upm σ 102 (upd (σ 102) x1.toNatClampNeg 0)) fun σ2 =>
  gd x1 8 <|
  bd (upm σ2 103 (upd (σ2 103) x1.toNatClampNeg 0)) fun σ4 =>
  (qX5_surveyLoops_29 x1 FU (σ4, 0)).bind fun σ5 =>
  bd (x1 + 1) fun v6 =>
  rec (σ5, v6)
def qX5_surveyLoops_2  : Nat → Mm × Int32 → Option (Mm) := lp (fun rec s => gX5_surveyLoops_2  rec s.1 s.2)
def fX5_surveyLoops (σ : Mm) : Option Mm :=
  (qX5_surveyLoops_2  FU (σ, 0)).bind fun σ1 =>
  some σ1
set_option maxHeartbeats 4000000 in
theorem pX5_surveyLoops_29 {X : sT} {cs : Nat × Nat} (hX : sX X cX5_surveyLoops RX5 3 3 65) (hcs : cs.1 ≤ (sR X).cells ∧ cs.2 ≤ (sR X).slots) (l1 : Int32)  : ∀ (n : Nat) (s : Mm × Int32) (r : Mm), qX5_surveyLoops_29 l1 n s = some r → sW X 3 cs r 101 [some (.ref (sad X 97)), some (.int l1), none] [] → sW X 3 cs s.1 29 [some (.ref (sad X 97)), some (.int l1), some (.int s.2)] [] := by
  refine lp_ind (P := fun (s : Mm × Int32) (r : Mm) => sW X 3 cs r 101 [some (.ref (sad X 97)), some (.int l1), none] [] → sW X 3 cs s.1 29 [some (.ref (sad X 97)), some (.int l1), some (.int s.2)] []) ?_
  intro rec hrec s r h0 hk
  obtain ⟨σ, x2⟩ := s
  have h : gX5_surveyLoops_29 l1 rec σ x2 = some r := h0
  unfold gX5_surveyLoops_29 at h
  show sW X 3 cs σ 29 [some (.ref (sad X 97)), some (.int l1), some (.int x2)] []
  refine s_iload_n hX dX5_surveyLoops_29 rfl ?_
  refine s_aload_n hX dX5_surveyLoops_30 rfl ?_
  refine s_getR (r := 1) hX fo_RX5_30_4 SH_97 rfl dX5_surveyLoops_31 ?_
  refine s_getI hX fo_RX5_119_6 SH_1 rfl dX5_surveyLoops_34 ?_
  refine s_ic_ge (tgt := 101) hX dX5_surveyLoops_37 (by decide) (fun c14 => ?_) (fun c14 => ?_)
  · replace h := (if_pos c14).symm.trans h
    obtain rfl := rt1 h
    refine s_mask [true, true, false] ?_
    exact hk
  · replace h := (if_neg c14).symm.trans h
    refine s_aload_n hX dX5_surveyLoops_40 rfl ?_
    refine s_getR (r := 94) hX fo_RX5_38_4 SH_97 rfl dX5_surveyLoops_41 ?_
    refine s_iload_n hX dX5_surveyLoops_44 rfl ?_
    refine s_iload_n hX dX5_surveyLoops_45 rfl ?_
    obtain ⟨r1, hc, h⟩ := bn_some h
    refine s_callVI _ hX (cX2_contains_ok (sl X)  hc) SH_94 mv_RX5_124_2 (fun _ => rfl) (by decide) (Nat.le_of_ble_eq_true rfl) hcs dX5_surveyLoops_46 rfl ?_
    refine s_if_eq (tgt := 95) hX dX5_surveyLoops_49 (by decide) (fun c13 => ?_) (fun c13 => ?_)
    · replace h := (if_pos c13).symm.trans h
      obtain ⟨v2, ev2, h⟩ := bd_some h
      refine s_iinc v2 hX dX5_surveyLoops_95 rfl (by rw [ev2]; rfl) (by decide) ?_
      refine s_goto (tgt := 29) hX dX5_surveyLoops_98 (by decide) ?_
      refine s_mask [true, true, true] ?_
      exact hrec _ _ h hk
    · replace h := (if_neg c13).symm.trans h
      refine s_aload_n hX dX5_surveyLoops_52 rfl ?_
      refine s_getR (r := 102) hX fo_RX5_24_4 SH_97 rfl dX5_surveyLoops_53 ?_
      refine s_iload_n hX dX5_surveyLoops_56 rfl ?_
      refine s_dup2 hX dX5_surveyLoops_57 rfl rfl ?_
      obtain ⟨c3, h⟩ := gd_some h
      refine s_iald hX SH_102 c3 dX5_surveyLoops_58 ?_
      refine s_aload_n hX dX5_surveyLoops_59 rfl ?_
      refine s_getR (r := 87) hX fo_RX5_34_4 SH_97 rfl dX5_surveyLoops_60 ?_
      refine s_iload_n hX dX5_surveyLoops_63 rfl ?_
      obtain ⟨r4, hc, h⟩ := bn_some h
      refine s_callVI _ hX (cX1_liveAtBeginning_ok (sl X)  hc) SH_87 mv_RX5_127_1 (fun _ => rfl) (by decide) (Nat.le_of_ble_eq_true rfl) hcs dX5_surveyLoops_64 rfl ?_
      refine s_aload_n hX dX5_surveyLoops_67 rfl ?_
      refine s_getR (r := 87) hX fo_RX5_34_4 SH_97 rfl dX5_surveyLoops_68 ?_
      refine s_iload_n hX dX5_surveyLoops_71 rfl ?_
      obtain ⟨r5, hc, h⟩ := bn_some h
      refine s_callVI _ hX (cX1_mentionedIn_ok (sl X)  hc) SH_87 mv_RX5_130_1 (fun _ => rfl) (by decide) (Nat.le_of_ble_eq_true rfl) hcs dX5_surveyLoops_72 rfl ?_
      refine s_ior hX dX5_surveyLoops_75 ?_
      refine s_ior hX dX5_surveyLoops_76 ?_
      obtain ⟨c6, h⟩ := gd_some h
      obtain ⟨σ7, eσ7, h⟩ := bd_some h
      refine s_iast hX SH_102 c6 dX5_surveyLoops_77 ?_
      refine s_mem σ7 eσ7 ?_
      refine s_aload_n hX dX5_surveyLoops_78 rfl ?_
      refine s_getR (r := 103) hX fo_RX5_27_4 SH_97 rfl dX5_surveyLoops_79 ?_
      refine s_iload_n hX dX5_surveyLoops_82 rfl ?_
      refine s_dup2 hX dX5_surveyLoops_83 rfl rfl ?_
      obtain ⟨c8, h⟩ := gd_some h
      refine s_iald hX SH_103 c8 dX5_surveyLoops_84 ?_
      refine s_aload_n hX dX5_surveyLoops_85 rfl ?_
      refine s_getR (r := 87) hX fo_RX5_34_4 SH_97 rfl dX5_surveyLoops_86 ?_
      refine s_iload_n hX dX5_surveyLoops_89 rfl ?_
      obtain ⟨r9, hc, h⟩ := bn_some h
      refine s_callVI _ hX (cX1_definedIn_ok (sl X)  hc) SH_87 mv_RX5_133_1 (fun _ => rfl) (by decide) (Nat.le_of_ble_eq_true rfl) hcs dX5_surveyLoops_90 rfl ?_
      refine s_ior hX dX5_surveyLoops_93 ?_
      obtain ⟨c10, h⟩ := gd_some h
      obtain ⟨σ11, eσ11, h⟩ := bd_some h
      refine s_iast hX SH_103 c10 dX5_surveyLoops_94 ?_
      refine s_mem σ11 eσ11 ?_
      obtain ⟨v12, ev12, h⟩ := bd_some h
      refine s_iinc v12 hX dX5_surveyLoops_95 rfl (by rw [ev12]; rfl) (by decide) ?_
      refine s_goto (tgt := 29) hX dX5_surveyLoops_98 (by decide) ?_
      refine s_mask [true, true, true] ?_
      exact hrec _ _ h hk
set_option maxHeartbeats 4000000 in
theorem pX5_surveyLoops_2 {X : sT} {cs : Nat × Nat} (hX : sX X cX5_surveyLoops RX5 3 3 65) (hcs : cs.1 ≤ (sR X).cells ∧ cs.2 ≤ (sR X).slots)   : ∀ (n : Nat) (s : Mm × Int32) (r : Mm), qX5_surveyLoops_2  n s = some r → sW X 3 cs r 107 [none, none, none] [] → sW X 3 cs s.1 2 [some (.ref (sad X 97)), some (.int s.2), none] [] := by
  refine lp_ind (P := fun (s : Mm × Int32) (r : Mm) => sW X 3 cs r 107 [none, none, none] [] → sW X 3 cs s.1 2 [some (.ref (sad X 97)), some (.int s.2), none] []) ?_
  intro rec hrec s r h0 hk
  obtain ⟨σ, x1⟩ := s
  have h : gX5_surveyLoops_2  rec σ x1 = some r := h0
  unfold gX5_surveyLoops_2 at h
  show sW X 3 cs σ 2 [some (.ref (sad X 97)), some (.int x1), none] []
  refine s_iload_n hX dX5_surveyLoops_2 rfl ?_
  refine s_aload_n hX dX5_surveyLoops_3 rfl ?_
  refine s_getR (r := 94) hX fo_RX5_38_4 SH_97 rfl dX5_surveyLoops_4 ?_
  refine s_getI hX fo_RX5_114_2 SH_94 rfl dX5_surveyLoops_7 ?_
  refine s_ic_ge (tgt := 107) hX dX5_surveyLoops_10 (by decide) (fun c7 => ?_) (fun c7 => ?_)
  · replace h := (if_pos c7).symm.trans h
    obtain rfl := rt1 h
    refine s_mask [false, false, false] ?_
    exact hk
  · replace h := (if_neg c7).symm.trans h
    refine s_aload_n hX dX5_surveyLoops_13 rfl ?_
    refine s_getR (r := 102) hX fo_RX5_24_4 SH_97 rfl dX5_surveyLoops_14 ?_
    refine s_iload_n hX dX5_surveyLoops_17 rfl ?_
    refine s_iconst 0 hX dX5_surveyLoops_18 (by decide) ?_
    obtain ⟨c1, h⟩ := gd_some h
    obtain ⟨σ2, eσ2, h⟩ := bd_some h
    refine s_iast hX SH_102 c1 dX5_surveyLoops_19 ?_
    refine s_mem σ2 eσ2 ?_
    refine s_aload_n hX dX5_surveyLoops_20 rfl ?_
    refine s_getR (r := 103) hX fo_RX5_27_4 SH_97 rfl dX5_surveyLoops_21 ?_
    refine s_iload_n hX dX5_surveyLoops_24 rfl ?_
    refine s_iconst 0 hX dX5_surveyLoops_25 (by decide) ?_
    obtain ⟨c3, h⟩ := gd_some h
    obtain ⟨σ4, eσ4, h⟩ := bd_some h
    refine s_iast hX SH_103 c3 dX5_surveyLoops_26 ?_
    refine s_mem σ4 eσ4 ?_
    refine s_iconst 0 hX dX5_surveyLoops_27 (by decide) ?_
    refine s_istore_n hX dX5_surveyLoops_28 (by decide) ?_
    obtain ⟨σ5, hc, h⟩ := bn_some h
    refine s_mask [true, true, true] ?_
    refine pX5_surveyLoops_29 hX hcs _ _ _ _ hc ?_
    obtain ⟨v6, ev6, h⟩ := bd_some h
    refine s_iinc v6 hX dX5_surveyLoops_101 rfl (by rw [ev6]; rfl) (by decide) ?_
    refine s_goto (tgt := 2) hX dX5_surveyLoops_104 (by decide) ?_
    refine s_mask [true, true, false] ?_
    exact hrec _ _ h hk
set_option maxHeartbeats 4000000 in
theorem cX5_surveyLoops_ok (l : Launch) {σ : Mm} {σ' : Mm}  (h : fX5_surveyLoops σ = some σ') : cV l yX5_surveyLoops cX5_surveyLoops 3 3 65 (fun ad => [.ref (ad 97)]) σ σ' := by
  refine c_enterV (fun ad => [some (.ref (ad 97)), none, none]) (by decide) (fun ad => ⟨by simp [Value.category], Nat.le_of_ble_eq_true rfl⟩) (fun ad => ⟨2, rfl⟩) ?_
  intro X _ hX hret
  have hcs : ((0 : Nat), (0 : Nat)).1 ≤ (sR X).cells ∧ ((0 : Nat), (0 : Nat)).2 ≤ (sR X).slots := ⟨Nat.zero_le _, Nat.zero_le _⟩
  generalize hcs0 : ((0 : Nat), (0 : Nat)) = cs at hcs hret ⊢
  unfold fX5_surveyLoops at h
  show sW X 3 cs σ 0 [some (.ref (sad X 97)), none, none] []
  refine s_iconst 0 hX dX5_surveyLoops_0 (by decide) ?_
  refine s_istore_n hX dX5_surveyLoops_1 (by decide) ?_
  obtain ⟨σ1, hc, h⟩ := bn_some h
  refine s_mask [true, true, false] ?_
  refine pX5_surveyLoops_2 hX hcs  _ _ _ hc ?_
  obtain rfl := rt1 h
  exact hret _ _ dX5_surveyLoops_107
def gX5_nextLoop_7 (σ : Mm) (l1 : Int32) (rec : Int32 × Int32 × Int32 → Option (Int32)) (x2 : Int32) (x3 : Int32) (x4 : Int32) : Option (Int32) :=
  if (σ 94 3) ≤ x4 then
  some x2
else
  gd x4 8 <|
  gd (σ 95 x4.toNatClampNeg) 8 <|
  bd (4 + 5 * (σ 95 x4.toNatClampNeg).toNatClampNeg) fun k3 =>
  bd (σ k3 9) fun v4 =>
  (fX9_has σ l1 x4).bind fun r5 =>
  if r5 = 0 then
  if v4 ≤ x3 then
  bd (x4 + 1) fun v7 =>
  rec (x2, x3, v7)
else
  bd (x4 + 1) fun v8 =>
  rec (x4, v4, v8)
else
  bd (x4 + 1) fun v6 =>
  rec (x2, x3, v6)
def qX5_nextLoop_7 (σ : Mm) (l1 : Int32) : Nat → Int32 × Int32 × Int32 → Option (Int32) := lp (fun rec s => gX5_nextLoop_7 σ l1 rec s.1 s.2.1 s.2.2)
def fX5_nextLoop (σ : Mm) (l1 : Int32) : Option Int32 :=
  (qX5_nextLoop_7 σ l1 FU (0, 0, 0)).bind fun v1 =>
  some v1
set_option maxHeartbeats 4000000 in
theorem pX5_nextLoop_7 {X : sT} {cs : Nat × Nat} (hX : sX X cX5_nextLoop RX5 6 1 21) (hcs : cs.1 ≤ (sR X).cells ∧ cs.2 ≤ (sR X).slots) (σ : Mm) (l1 : Int32)  : ∀ (n : Nat) (s : Int32 × Int32 × Int32) (r : Int32), qX5_nextLoop_7 σ l1 n s = some r → sW X 6 cs σ 69 [none, none, some (.int r), none, none, none] [] → sW X 6 cs σ 7 [some (.ref (sad X 97)), some (.int l1), some (.int s.1), some (.int s.2.1), some (.int s.2.2), none] [] := by
  refine lp_ind (P := fun (s : Int32 × Int32 × Int32) (r : Int32) => sW X 6 cs σ 69 [none, none, some (.int r), none, none, none] [] → sW X 6 cs σ 7 [some (.ref (sad X 97)), some (.int l1), some (.int s.1), some (.int s.2.1), some (.int s.2.2), none] []) ?_
  intro rec hrec s r h0 hk
  obtain ⟨x2, x3, x4⟩ := s
  have h : gX5_nextLoop_7 σ l1 rec x2 x3 x4 = some r := h0
  unfold gX5_nextLoop_7 at h
  show sW X 6 cs σ 7 [some (.ref (sad X 97)), some (.int l1), some (.int x2), some (.int x3), some (.int x4), none] []
  refine s_iload hX dX5_nextLoop_7 rfl ?_
  refine s_aload_n hX dX5_nextLoop_9 rfl ?_
  refine s_getR (r := 94) hX fo_RX5_38_4 SH_97 rfl dX5_nextLoop_10 ?_
  refine s_getI hX fo_RX5_114_2 SH_94 rfl dX5_nextLoop_13 ?_
  refine s_ic_ge (tgt := 69) hX dX5_nextLoop_16 (by decide) (fun c11 => ?_) (fun c11 => ?_)
  · replace h := (if_pos c11).symm.trans h
    obtain rfl := rt1 h
    refine s_mask [false, false, true, false, false, false] ?_
    exact hk
  · replace h := (if_neg c11).symm.trans h
    refine s_aload_n hX dX5_nextLoop_19 rfl ?_
    refine s_getR (r := 1) hX fo_RX5_30_4 SH_97 rfl dX5_nextLoop_20 ?_
    refine s_getR (r := 2) hX fo_RX5_151_6 SH_1 rfl dX5_nextLoop_23 ?_
    refine s_aload_n hX dX5_nextLoop_26 rfl ?_
    refine s_getR (r := 94) hX fo_RX5_38_4 SH_97 rfl dX5_nextLoop_27 ?_
    refine s_getR (r := 95) hX fo_RX5_155_2 SH_94 rfl dX5_nextLoop_30 ?_
    refine s_iload hX dX5_nextLoop_33 rfl ?_
    obtain ⟨c1, h⟩ := gd_some h
    refine s_iald hX SH_95 c1 dX5_nextLoop_35 ?_
    obtain ⟨c2, h⟩ := gd_some h
    obtain ⟨k3, ek3, h⟩ := bd_some h
    have Bk3 : isB k3 := Or.inl ⟨_, vp_lt c2, ek3⟩
    refine s_aaldP hX c2 dX5_nextLoop_36 ?_
    refine s_topr k3 ek3 ?_
    refine s_getI hX fo_RX5_158_0 (isB_0 Bk3) rfl dX5_nextLoop_37 ?_
    obtain ⟨v4, ev4, h⟩ := bd_some h
    refine s_topi v4 ev4 ?_
    refine s_istore hX dX5_nextLoop_40 (by decide) ?_
    refine s_iload_n hX dX5_nextLoop_42 rfl ?_
    refine s_iload hX dX5_nextLoop_43 rfl ?_
    obtain ⟨r5, hc, h⟩ := bn_some h
    refine s_callSI _ hX (cX9_has_ok (sl X)  hc) ms_RX5_83 (fun _ => rfl) (by decide) (Nat.le_of_ble_eq_true rfl) hcs dX5_nextLoop_45 rfl ?_
    refine s_if_ne (tgt := 63) hX dX5_nextLoop_48 (by decide) (fun c10 => ?_) (fun c10 => ?_)
    · replace h := (if_neg c10).symm.trans h
      obtain ⟨v6, ev6, h⟩ := bd_some h
      refine s_iinc v6 hX dX5_nextLoop_63 rfl (by rw [ev6]; rfl) (by decide) ?_
      refine s_goto (tgt := 7) hX dX5_nextLoop_66 (by decide) ?_
      refine s_mask [true, true, true, true, true, false] ?_
      exact hrec _ _ h hk
    · replace h := (if_pos c10).symm.trans h
      refine s_iload hX dX5_nextLoop_51 rfl ?_
      refine s_iload_n hX dX5_nextLoop_53 rfl ?_
      refine s_ic_le (tgt := 63) hX dX5_nextLoop_54 (by decide) (fun c9 => ?_) (fun c9 => ?_)
      · replace h := (if_pos c9).symm.trans h
        obtain ⟨v7, ev7, h⟩ := bd_some h
        refine s_iinc v7 hX dX5_nextLoop_63 rfl (by rw [ev7]; rfl) (by decide) ?_
        refine s_goto (tgt := 7) hX dX5_nextLoop_66 (by decide) ?_
        refine s_mask [true, true, true, true, true, false] ?_
        exact hrec _ _ h hk
      · replace h := (if_neg c9).symm.trans h
        refine s_iload hX dX5_nextLoop_57 rfl ?_
        refine s_istore_n hX dX5_nextLoop_59 (by decide) ?_
        refine s_iload hX dX5_nextLoop_60 rfl ?_
        refine s_istore_n hX dX5_nextLoop_62 (by decide) ?_
        obtain ⟨v8, ev8, h⟩ := bd_some h
        refine s_iinc v8 hX dX5_nextLoop_63 rfl (by rw [ev8]; rfl) (by decide) ?_
        refine s_goto (tgt := 7) hX dX5_nextLoop_66 (by decide) ?_
        refine s_mask [true, true, true, true, true, false] ?_
        exact hrec _ _ h hk
set_option maxHeartbeats 4000000 in
theorem cX5_nextLoop_ok (l : Launch) {σ : Mm} {l1 : Int32} {r : Int32}  (h : fX5_nextLoop σ l1 = some r) : cI l yX5_nextLoop cX5_nextLoop 6 .int 1 21 (fun ad => [.ref (ad 97), .int l1]) σ r σ := by
  refine c_enterI (fun ad => [some (.ref (ad 97)), some (.int l1), none, none, none, none]) (by decide) (fun ad => ⟨by simp [Value.category], Nat.le_of_ble_eq_true rfl⟩) (fun ad => ⟨4, rfl⟩) ?_
  intro X _ hX hret
  have hcs : ((0 : Nat), (0 : Nat)).1 ≤ (sR X).cells ∧ ((0 : Nat), (0 : Nat)).2 ≤ (sR X).slots := ⟨Nat.zero_le _, Nat.zero_le _⟩
  generalize hcs0 : ((0 : Nat), (0 : Nat)) = cs at hcs hret ⊢
  unfold fX5_nextLoop at h
  show sW X 6 cs σ 0 [some (.ref (sad X 97)), some (.int l1), none, none, none, none] []
  refine s_iconst 0 hX dX5_nextLoop_0 (by decide) ?_
  refine s_istore_n hX dX5_nextLoop_1 (by decide) ?_
  refine s_iconst 0 hX dX5_nextLoop_2 (by decide) ?_
  refine s_istore_n hX dX5_nextLoop_3 (by decide) ?_
  refine s_iconst 0 hX dX5_nextLoop_4 (by decide) ?_
  refine s_istore hX dX5_nextLoop_5 (by decide) ?_
  obtain ⟨v1, hc, h⟩ := bn_some h
  refine s_mask [true, true, true, true, true, false] ?_
  refine pX5_nextLoop_7 hX hcs _ _ _ _ _ hc ?_
  refine s_iload_n hX dX5_nextLoop_69 rfl ?_
  obtain rfl := rt1 h
  exact hret _ _ (nzi _) dX5_nextLoop_70
def gX5_isLiveOutside_29 (σ : Mm) (l2 : Int32) (l4 : Int32) (rec : Int32 → Option (Int32 ⊕ (Unit))) (x5 : Int32) : Option (Int32 ⊕ (Unit)) :=
  if (σ 1 2) ≤ x5 then
  some (.inr ())
else
  (fX9_has σ l4 x5).bind fun r1 =>
  if r1 = 0 then
  bd (x5 + 1) fun v2 =>
  rec v2
else
  (fX1_liveAtBeginning σ x5).bind fun r3 =>
  (fX9_has σ r3 l2).bind fun r4 =>
  if r4 = 0 then
  bd (x5 + 1) fun v5 =>
  rec v5
else
  some (.inl 1)
def qX5_isLiveOutside_29 (σ : Mm) (l2 : Int32) (l4 : Int32) : Nat → Int32 → Option (Int32 ⊕ (Unit)) := lp (fun rec s => gX5_isLiveOutside_29 σ l2 l4 rec s)
def fX5_isLiveOutside (σ : Mm) (l1 : Int32) (l2 : Int32) (l3 : Int32) : Option Int32 :=
  gd l1 8 <|
  bd (4 + 5 * l1.toNatClampNeg) fun k2 =>
  (fX0_successors σ k2).bind fun r3 =>
  gd l3 8 <|
  bd (r3 &&& ((σ 96 l3.toNatClampNeg) ^^^ (-1))) fun v5 =>
  bns (qX5_isLiveOutside_29 σ l2 v5 FU 0) (fun u => some u) (fun _ => some 0)
set_option maxHeartbeats 4000000 in
theorem pX5_isLiveOutside_29 {X : sT} {cs : Nat × Nat} (hX : sX X cX5_isLiveOutside RX5 6 1 21) (hcs : cs.1 ≤ (sR X).cells ∧ cs.2 ≤ (sR X).slots) (σ : Mm) (l2 : Int32) (l4 : Int32)  : ∀ (n : Nat) (s : Int32) (r : Int32 ⊕ (Unit)), qX5_isLiveOutside_29 σ l2 l4 n s = some r → (∀ u, r = .inr u → sW X 6 cs σ 75 [none, none, none, none, none, none] []) → (∀ u, r = .inl u → ∀ pc L, narrow .boolean (.int u) = .int u → decode cX5_isLiveOutside pc = .ok (.ireturn, 1) → sW X 6 cs σ pc L [.int u]) → sW X 6 cs σ 29 [some (.ref (sad X 97)), none, some (.int l2), none, some (.int l4), some (.int s)] [] := by
  refine lp_ind (P := fun (s : Int32) (r : Int32 ⊕ (Unit)) => (∀ u, r = .inr u → sW X 6 cs σ 75 [none, none, none, none, none, none] []) → (∀ u, r = .inl u → ∀ pc L, narrow .boolean (.int u) = .int u → decode cX5_isLiveOutside pc = .ok (.ireturn, 1) → sW X 6 cs σ pc L [.int u]) → sW X 6 cs σ 29 [some (.ref (sad X 97)), none, some (.int l2), none, some (.int l4), some (.int s)] []) ?_
  intro rec hrec s r h0 hk hr
  obtain ⟨x5, e0⟩ : ∃ z, z = s := ⟨s, rfl⟩
  subst e0
  have h : gX5_isLiveOutside_29 σ l2 l4 rec x5 = some r := h0
  unfold gX5_isLiveOutside_29 at h
  show sW X 6 cs σ 29 [some (.ref (sad X 97)), none, some (.int l2), none, some (.int l4), some (.int x5)] []
  refine s_iload hX dX5_isLiveOutside_29 rfl ?_
  refine s_aload_n hX dX5_isLiveOutside_31 rfl ?_
  refine s_getR (r := 1) hX fo_RX5_30_4 SH_97 rfl dX5_isLiveOutside_32 ?_
  refine s_getI hX fo_RX5_119_6 SH_1 rfl dX5_isLiveOutside_35 ?_
  refine s_ic_ge (tgt := 75) hX dX5_isLiveOutside_38 (by decide) (fun c8 => ?_) (fun c8 => ?_)
  · replace h := (if_pos c8).symm.trans h
    obtain rfl := rt1 h
    refine s_mask [false, false, false, false, false, false] ?_
    exact hk _ rfl
  · replace h := (if_neg c8).symm.trans h
    refine s_iload hX dX5_isLiveOutside_41 rfl ?_
    refine s_iload hX dX5_isLiveOutside_43 rfl ?_
    obtain ⟨r1, hc, h⟩ := bn_some h
    refine s_callSI _ hX (cX9_has_ok (sl X)  hc) ms_RX5_83 (fun _ => rfl) (by decide) (Nat.le_of_ble_eq_true rfl) hcs dX5_isLiveOutside_45 rfl ?_
    refine s_if_eq (tgt := 69) hX dX5_isLiveOutside_48 (by decide) (fun c7 => ?_) (fun c7 => ?_)
    · replace h := (if_pos c7).symm.trans h
      obtain ⟨v2, ev2, h⟩ := bd_some h
      refine s_iinc v2 hX dX5_isLiveOutside_69 rfl (by rw [ev2]; rfl) (by decide) ?_
      refine s_goto (tgt := 29) hX dX5_isLiveOutside_72 (by decide) ?_
      refine s_mask [true, false, true, false, true, true] ?_
      exact hrec _ _ h hk hr
    · replace h := (if_neg c7).symm.trans h
      refine s_aload_n hX dX5_isLiveOutside_51 rfl ?_
      refine s_getR (r := 87) hX fo_RX5_34_4 SH_97 rfl dX5_isLiveOutside_52 ?_
      refine s_iload hX dX5_isLiveOutside_55 rfl ?_
      obtain ⟨r3, hc, h⟩ := bn_some h
      refine s_callVI _ hX (cX1_liveAtBeginning_ok (sl X)  hc) SH_87 mv_RX5_127_1 (fun _ => rfl) (by decide) (Nat.le_of_ble_eq_true rfl) hcs dX5_isLiveOutside_57 rfl ?_
      refine s_iload_n hX dX5_isLiveOutside_60 rfl ?_
      obtain ⟨r4, hc, h⟩ := bn_some h
      refine s_callSI _ hX (cX9_has_ok (sl X)  hc) ms_RX5_83 (fun _ => rfl) (by decide) (Nat.le_of_ble_eq_true rfl) hcs dX5_isLiveOutside_61 rfl ?_
      refine s_if_eq (tgt := 69) hX dX5_isLiveOutside_64 (by decide) (fun c6 => ?_) (fun c6 => ?_)
      · replace h := (if_pos c6).symm.trans h
        obtain ⟨v5, ev5, h⟩ := bd_some h
        refine s_iinc v5 hX dX5_isLiveOutside_69 rfl (by rw [ev5]; rfl) (by decide) ?_
        refine s_goto (tgt := 29) hX dX5_isLiveOutside_72 (by decide) ?_
        refine s_mask [true, false, true, false, true, true] ?_
        exact hrec _ _ h hk hr
      · replace h := (if_neg c6).symm.trans h
        refine s_iconst 1 hX dX5_isLiveOutside_67 (by decide) ?_
        obtain rfl := rt1 h
        exact hr _ rfl _ _ nz1 dX5_isLiveOutside_68
set_option maxHeartbeats 4000000 in
theorem cX5_isLiveOutside_ok (l : Launch) {σ : Mm} {l1 : Int32} {l2 : Int32} {l3 : Int32} {r : Int32}  (h : fX5_isLiveOutside σ l1 l2 l3 = some r) : cI l yX5_isLiveOutside cX5_isLiveOutside 6 .boolean 1 21 (fun ad => [.ref (ad 97), .int l1, .int l2, .int l3]) σ r σ := by
  refine c_enterI (fun ad => [some (.ref (ad 97)), some (.int l1), some (.int l2), some (.int l3), none, none]) (by decide) (fun ad => ⟨by simp [Value.category], Nat.le_of_ble_eq_true rfl⟩) (fun ad => ⟨2, rfl⟩) ?_
  intro X _ hX hret
  have hcs : ((0 : Nat), (0 : Nat)).1 ≤ (sR X).cells ∧ ((0 : Nat), (0 : Nat)).2 ≤ (sR X).slots := ⟨Nat.zero_le _, Nat.zero_le _⟩
  generalize hcs0 : ((0 : Nat), (0 : Nat)) = cs at hcs hret ⊢
  unfold fX5_isLiveOutside at h
  show sW X 6 cs σ 0 [some (.ref (sad X 97)), some (.int l1), some (.int l2), some (.int l3), none, none] []
  refine s_aload_n hX dX5_isLiveOutside_0 rfl ?_
  refine s_getR (r := 1) hX fo_RX5_30_4 SH_97 rfl dX5_isLiveOutside_1 ?_
  refine s_getR (r := 2) hX fo_RX5_151_6 SH_1 rfl dX5_isLiveOutside_4 ?_
  refine s_iload_n hX dX5_isLiveOutside_7 rfl ?_
  obtain ⟨c1, h⟩ := gd_some h
  obtain ⟨k2, ek2, h⟩ := bd_some h
  have Bk2 : isB k2 := Or.inl ⟨_, vp_lt c1, ek2⟩
  refine s_aaldP hX c1 dX5_isLiveOutside_8 ?_
  refine s_topr k2 ek2 ?_
  obtain ⟨r3, hc, h⟩ := bn_some h
  refine s_callVI _ hX (cX0_successors_ok (sl X) Bk2 hc) (isB_0 Bk2) mv_RX5_186_0 (fun _ => rfl) (by decide) (Nat.le_of_ble_eq_true rfl) hcs dX5_isLiveOutside_9 rfl ?_
  refine s_aload_n hX dX5_isLiveOutside_12 rfl ?_
  refine s_getR (r := 94) hX fo_RX5_38_4 SH_97 rfl dX5_isLiveOutside_13 ?_
  refine s_getR (r := 96) hX fo_RX5_189_2 SH_94 rfl dX5_isLiveOutside_16 ?_
  refine s_iload_n hX dX5_isLiveOutside_19 rfl ?_
  obtain ⟨c4, h⟩ := gd_some h
  refine s_iald hX SH_96 c4 dX5_isLiveOutside_20 ?_
  refine s_iconst (-1) hX dX5_isLiveOutside_21 (by decide) ?_
  refine s_ixor hX dX5_isLiveOutside_22 ?_
  refine s_iand hX dX5_isLiveOutside_23 ?_
  obtain ⟨v5, ev5, h⟩ := bd_some h
  refine s_topi v5 ev5 ?_
  refine s_istore hX dX5_isLiveOutside_24 (by decide) ?_
  refine s_iconst 0 hX dX5_isLiveOutside_26 (by decide) ?_
  refine s_istore hX dX5_isLiveOutside_27 (by decide) ?_
  refine s_mask [true, false, true, false, true, true] ?_
  rcases bns_some h with ⟨u, hc, h⟩ | ⟨u, hc, h⟩
  · cases h
    exact pX5_isLiveOutside_29 hX hcs _ _ _ _ _ _ hc (fun _ e => nomatch e) (fun w e pc L nn d => by cases e; exact hret pc L nn d)
  · refine pX5_isLiveOutside_29 hX hcs _ _ _ _ _ _ hc (fun w e => ?_) (fun w e => nomatch e)
    cases e
    refine s_iconst 0 hX dX5_isLiveOutside_75 (by decide) ?_
    obtain rfl := rt1 h
    exact hret _ _ nz0 dX5_isLiveOutside_76
def fX5_loadsOnEdge (σ : Mm) (l1 : Int32) (l2 : Int32) (l3 : Int32) : Option Int32 :=
  gd l3 8 <|
  bd (σ 95 l3.toNatClampNeg) fun v2 =>
  gd l1 8 <|
  bd (4 + 5 * l1.toNatClampNeg) fun k4 =>
  (fX0_successors σ k4).bind fun r5 =>
  (fX9_has σ r5 v2).bind fun r6 =>
  if r6 = 0 then
  some 0
else
  (fX1_liveAtBeginning σ v2).bind fun r7 =>
  (fX9_has σ r7 l2).bind fun r8 =>
  if r8 = 0 then
  some 0
else
  some 1
set_option maxHeartbeats 4000000 in
theorem cX5_loadsOnEdge_ok (l : Launch) {σ : Mm} {l1 : Int32} {l2 : Int32} {l3 : Int32} {r : Int32}  (h : fX5_loadsOnEdge σ l1 l2 l3 = some r) : cI l yX5_loadsOnEdge cX5_loadsOnEdge 5 .boolean 1 21 (fun ad => [.ref (ad 97), .int l1, .int l2, .int l3]) σ r σ := by
  refine c_enterI (fun ad => [some (.ref (ad 97)), some (.int l1), some (.int l2), some (.int l3), none]) (by decide) (fun ad => ⟨by simp [Value.category], Nat.le_of_ble_eq_true rfl⟩) (fun ad => ⟨1, rfl⟩) ?_
  intro X _ hX hret
  have hcs : ((0 : Nat), (0 : Nat)).1 ≤ (sR X).cells ∧ ((0 : Nat), (0 : Nat)).2 ≤ (sR X).slots := ⟨Nat.zero_le _, Nat.zero_le _⟩
  generalize hcs0 : ((0 : Nat), (0 : Nat)) = cs at hcs hret ⊢
  unfold fX5_loadsOnEdge at h
  show sW X 5 cs σ 0 [some (.ref (sad X 97)), some (.int l1), some (.int l2), some (.int l3), none] []
  refine s_aload_n hX dX5_loadsOnEdge_0 rfl ?_
  refine s_getR (r := 94) hX fo_RX5_38_4 SH_97 rfl dX5_loadsOnEdge_1 ?_
  refine s_getR (r := 95) hX fo_RX5_155_2 SH_94 rfl dX5_loadsOnEdge_4 ?_
  refine s_iload_n hX dX5_loadsOnEdge_7 rfl ?_
  obtain ⟨c1, h⟩ := gd_some h
  refine s_iald hX SH_95 c1 dX5_loadsOnEdge_8 ?_
  obtain ⟨v2, ev2, h⟩ := bd_some h
  refine s_topi v2 ev2 ?_
  refine s_istore hX dX5_loadsOnEdge_9 (by decide) ?_
  refine s_aload_n hX dX5_loadsOnEdge_11 rfl ?_
  refine s_getR (r := 1) hX fo_RX5_30_4 SH_97 rfl dX5_loadsOnEdge_12 ?_
  refine s_getR (r := 2) hX fo_RX5_151_6 SH_1 rfl dX5_loadsOnEdge_15 ?_
  refine s_iload_n hX dX5_loadsOnEdge_18 rfl ?_
  obtain ⟨c3, h⟩ := gd_some h
  obtain ⟨k4, ek4, h⟩ := bd_some h
  have Bk4 : isB k4 := Or.inl ⟨_, vp_lt c3, ek4⟩
  refine s_aaldP hX c3 dX5_loadsOnEdge_19 ?_
  refine s_topr k4 ek4 ?_
  obtain ⟨r5, hc, h⟩ := bn_some h
  refine s_callVI _ hX (cX0_successors_ok (sl X) Bk4 hc) (isB_0 Bk4) mv_RX5_186_0 (fun _ => rfl) (by decide) (Nat.le_of_ble_eq_true rfl) hcs dX5_loadsOnEdge_20 rfl ?_
  refine s_iload hX dX5_loadsOnEdge_23 rfl ?_
  obtain ⟨r6, hc, h⟩ := bn_some h
  refine s_callSI _ hX (cX9_has_ok (sl X)  hc) ms_RX5_83 (fun _ => rfl) (by decide) (Nat.le_of_ble_eq_true rfl) hcs dX5_loadsOnEdge_25 rfl ?_
  refine s_if_eq (tgt := 51) hX dX5_loadsOnEdge_28 (by decide) (fun c10 => ?_) (fun c10 => ?_)
  · replace h := (if_pos c10).symm.trans h
    refine s_iconst 0 hX dX5_loadsOnEdge_51 (by decide) ?_
    obtain rfl := rt1 h
    exact hret _ _ nz0 dX5_loadsOnEdge_52
  · replace h := (if_neg c10).symm.trans h
    refine s_aload_n hX dX5_loadsOnEdge_31 rfl ?_
    refine s_getR (r := 87) hX fo_RX5_34_4 SH_97 rfl dX5_loadsOnEdge_32 ?_
    refine s_iload hX dX5_loadsOnEdge_35 rfl ?_
    obtain ⟨r7, hc, h⟩ := bn_some h
    refine s_callVI _ hX (cX1_liveAtBeginning_ok (sl X)  hc) SH_87 mv_RX5_127_1 (fun _ => rfl) (by decide) (Nat.le_of_ble_eq_true rfl) hcs dX5_loadsOnEdge_37 rfl ?_
    refine s_iload_n hX dX5_loadsOnEdge_40 rfl ?_
    obtain ⟨r8, hc, h⟩ := bn_some h
    refine s_callSI _ hX (cX9_has_ok (sl X)  hc) ms_RX5_83 (fun _ => rfl) (by decide) (Nat.le_of_ble_eq_true rfl) hcs dX5_loadsOnEdge_41 rfl ?_
    refine s_if_eq (tgt := 51) hX dX5_loadsOnEdge_44 (by decide) (fun c9 => ?_) (fun c9 => ?_)
    · replace h := (if_pos c9).symm.trans h
      refine s_iconst 0 hX dX5_loadsOnEdge_51 (by decide) ?_
      obtain rfl := rt1 h
      exact hret _ _ nz0 dX5_loadsOnEdge_52
    · replace h := (if_neg c9).symm.trans h
      refine s_iconst 1 hX dX5_loadsOnEdge_47 (by decide) ?_
      refine s_goto (tgt := 52) hX dX5_loadsOnEdge_48 (by decide) ?_
      obtain rfl := rt1 h
      exact hret _ _ nz1 dX5_loadsOnEdge_52
