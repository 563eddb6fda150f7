def fX10_cost (σ : Mm) (l1 : Int32) (l2 : Int32) : Option (Int32 × Mm) :=
  bd (upm σ 123 (upd (σ 123) 0 0)) fun σ1 =>
  (fX10_isVariable σ1 l1).bind fun r2 =>
  if r2 = 0 then
  bn2 (fX10_fails σ1 1) fun r12 σ13 =>
  some (r12, σ13)
else
  (fX10_layLive σ1).bind fun σ3 =>
  if l2 = 0 then
  (fX10_memoryCost σ3 l1).bind fun r10 =>
  some (r10, σ3)
else
  (fX10_constantRow σ3 l1).bind fun r4 =>
  if 0 ≤ r4 then
  (fX10_all σ3).bind fun r5 =>
  (fX10_sumOfUses σ3 l1 r5).bind fun r6 =>
  some (r6, σ3)
else
  bn2 (fX10_fails σ3 2) fun r7 σ8 =>
  some (r7, σ8)
set_option maxHeartbeats 4000000 in
theorem cX10_cost_ok (l : Launch) {σ : Mm} {l1 : Int32} {l2 : Int32} {r : Int32} {σ' : Mm}  (h : fX10_cost σ l1 l2 = some (r, σ')) : cI l yX10_cost cX10_cost 3 .int 4 92 (fun ad => [.ref (ad 123), .int l1, .int l2]) σ r σ' := by
  refine c_enterI (fun ad => [some (.ref (ad 123)), some (.int l1), some (.int l2)]) (by decide) (fun ad => ⟨by simp [Value.category], Nat.le_of_ble_eq_true rfl⟩) (fun ad => ⟨0, rfl⟩) ?_
  intro X _ hX hret
  have hcs : ((0 : Nat), (0 : Nat)).1 ≤ (sR X).cells ∧ ((0 : Nat), (0 : Nat)).2 ≤ (sR X).slots := ⟨Nat.zero_le _, Nat.zero_le _⟩
  generalize hcs0 : ((0 : Nat), (0 : Nat)) = cs at hcs hret ⊢
  unfold fX10_cost at h
  show sW X 3 cs σ 0 [some (.ref (sad X 123)), some (.int l1), some (.int l2)] []
  refine s_aload_n hX dX10_cost_0 rfl ?_
  refine s_iconst 0 hX dX10_cost_1 (by decide) ?_
  obtain ⟨σ1, eσ1, h⟩ := bd_some h
  refine s_putI hX fo_RX10_1_9 SH_123 rfl dX10_cost_2 ?_
  refine s_mem σ1 eσ1 ?_
  refine s_iload_n hX dX10_cost_5 rfl ?_
  obtain ⟨r2, hc, h⟩ := bn_some h
  refine s_callSI _ hX (cX10_isVariable_ok (sl X)  hc) ms_RX10_225 (fun _ => rfl) (by decide) (Nat.le_of_ble_eq_true rfl) hcs dX10_cost_6 rfl ?_
  refine s_if_ne (tgt := 18) hX dX10_cost_9 (by decide) (fun c14 => ?_) (fun c14 => ?_)
  · replace h := (if_neg c14).symm.trans h
    refine s_aload_n hX dX10_cost_18 rfl ?_
    obtain ⟨σ3, hc, h⟩ := bn_some h
    refine s_callVV _ hX (cX10_layLive_ok (sl X)  hc) SH_123 mv_RX10_252_9 (fun _ => rfl) (by decide) (Nat.le_of_ble_eq_true rfl) hcs dX10_cost_19 rfl ?_
    refine s_iload_n hX dX10_cost_22 rfl ?_
    refine s_if_ne (tgt := 32) hX dX10_cost_23 (by decide) (fun c11 => ?_) (fun c11 => ?_)
    · replace h := (if_neg c11).symm.trans h
      refine s_aload_n hX dX10_cost_32 rfl ?_
      refine s_iload_n hX dX10_cost_33 rfl ?_
      obtain ⟨r4, hc, h⟩ := bn_some h
      refine s_callVI _ hX (cX10_constantRow_ok (sl X)  hc) SH_123 mv_RX10_295_9 (fun _ => rfl) (by decide) (Nat.le_of_ble_eq_true rfl) hcs dX10_cost_34 rfl ?_
      refine s_if_ge (tgt := 48) hX dX10_cost_37 (by decide) (fun c9 => ?_) (fun c9 => ?_)
      · replace h := (if_pos c9).symm.trans h
        refine s_aload_n hX dX10_cost_48 rfl ?_
        refine s_iload_n hX dX10_cost_49 rfl ?_
        refine s_aload_n hX dX10_cost_50 rfl ?_
        obtain ⟨r5, hc, h⟩ := bn_some h
        refine s_callVI _ hX (cX10_all_ok (sl X)  hc) SH_123 mv_RX10_282_9 (fun _ => rfl) (by decide) (Nat.le_of_ble_eq_true rfl) hcs dX10_cost_51 rfl ?_
        obtain ⟨r6, hc, h⟩ := bn_some h
        refine s_callVI _ hX (cX10_sumOfUses_ok (sl X)  hc) SH_123 mv_RX10_286_9 (fun _ => rfl) (by decide) (Nat.le_of_ble_eq_true rfl) hcs dX10_cost_54 rfl ?_
        obtain ⟨rfl, rfl⟩ := rt2 h
        exact hret _ _ (nzi _) dX10_cost_57
      · replace h := (if_neg c9).symm.trans h
        refine s_aload_n hX dX10_cost_40 rfl ?_
        refine s_iconst 2 hX dX10_cost_41 (by decide) ?_
        obtain ⟨r7, σ8, hc, h⟩ := bn2_some h
        refine s_callVI _ hX (cX10_fails_ok (sl X)  hc) SH_123 mv_RX10_217_9 (fun _ => rfl) (by decide) (Nat.le_of_ble_eq_true rfl) hcs dX10_cost_42 rfl ?_
        refine s_goto (tgt := 57) hX dX10_cost_45 (by decide) ?_
        obtain ⟨rfl, rfl⟩ := rt2 h
        exact hret _ _ (nzi _) dX10_cost_57
    · replace h := (if_pos c11).symm.trans h
      refine s_aload_n hX dX10_cost_26 rfl ?_
      refine s_iload_n hX dX10_cost_27 rfl ?_
      obtain ⟨r10, hc, h⟩ := bn_some h
      refine s_callVI _ hX (cX10_memoryCost_ok (sl X)  hc) SH_123 mv_RX10_292_9 (fun _ => rfl) (by decide) (Nat.le_of_ble_eq_true rfl) hcs dX10_cost_28 rfl ?_
      obtain ⟨rfl, rfl⟩ := rt2 h
      exact hret _ _ (nzi _) dX10_cost_31
  · replace h := (if_pos c14).symm.trans h
    refine s_aload_n hX dX10_cost_12 rfl ?_
    refine s_iconst 1 hX dX10_cost_13 (by decide) ?_
    obtain ⟨r12, σ13, hc, h⟩ := bn2_some h
    refine s_callVI _ hX (cX10_fails_ok (sl X)  hc) SH_123 mv_RX10_217_9 (fun _ => rfl) (by decide) (Nat.le_of_ble_eq_true rfl) hcs dX10_cost_14 rfl ?_
    obtain ⟨rfl, rfl⟩ := rt2 h
    exact hret _ _ (nzi _) dX10_cost_17
def fX10_isUsed (σ : Mm) (l1 : Int32) : Option Int32 :=
  (fX10_all σ).bind fun r1 =>
  (fX10_sumOfUses σ l1 r1).bind fun r2 =>
  (fX10_all σ).bind fun r3 =>
  (fX10_sumOfTargets σ l1 r3).bind fun r4 =>
  if (r2 + r4) ≤ 0 then
  some 0
else
  some 1
set_option maxHeartbeats 4000000 in
theorem cX10_isUsed_ok (l : Launch) {σ : Mm} {l1 : Int32} {r : Int32}  (h : fX10_isUsed σ l1 = some r) : cI l yX10_isUsed cX10_isUsed 2 .boolean 2 46 (fun ad => [.ref (ad 123), .int l1]) σ r σ := by
  refine c_enterI (fun ad => [some (.ref (ad 123)), some (.int l1)]) (by decide) (fun ad => ⟨by simp [Value.category], Nat.le_of_ble_eq_true rfl⟩) (fun ad => ⟨0, rfl⟩) ?_
  intro X _ hX hret
  have hcs : ((0 : Nat), (0 : Nat)).1 ≤ (sR X).cells ∧ ((0 : Nat), (0 : Nat)).2 ≤ (sR X).slots := ⟨Nat.zero_le _, Nat.zero_le _⟩
  generalize hcs0 : ((0 : Nat), (0 : Nat)) = cs at hcs hret ⊢
  unfold fX10_isUsed at h
  show sW X 2 cs σ 0 [some (.ref (sad X 123)), some (.int l1)] []
  refine s_aload_n hX dX10_isUsed_0 rfl ?_
  refine s_iload_n hX dX10_isUsed_1 rfl ?_
  refine s_aload_n hX dX10_isUsed_2 rfl ?_
  obtain ⟨r1, hc, h⟩ := bn_some h
  refine s_callVI _ hX (cX10_all_ok (sl X)  hc) SH_123 mv_RX10_282_9 (fun _ => rfl) (by decide) (Nat.le_of_ble_eq_true rfl) hcs dX10_isUsed_3 rfl ?_
  obtain ⟨r2, hc, h⟩ := bn_some h
  refine s_callVI _ hX (cX10_sumOfUses_ok (sl X)  hc) SH_123 mv_RX10_286_9 (fun _ => rfl) (by decide) (Nat.le_of_ble_eq_true rfl) hcs dX10_isUsed_6 rfl ?_
  refine s_aload_n hX dX10_isUsed_9 rfl ?_
  refine s_iload_n hX dX10_isUsed_10 rfl ?_
  refine s_aload_n hX dX10_isUsed_11 rfl ?_
  obtain ⟨r3, hc, h⟩ := bn_some h
  refine s_callVI _ hX (cX10_all_ok (sl X)  hc) SH_123 mv_RX10_282_9 (fun _ => rfl) (by decide) (Nat.le_of_ble_eq_true rfl) hcs dX10_isUsed_12 rfl ?_
  obtain ⟨r4, hc, h⟩ := bn_some h
  refine s_callVI _ hX (cX10_sumOfTargets_ok (sl X)  hc) SH_123 mv_RX10_289_9 (fun _ => rfl) (by decide) (Nat.le_of_ble_eq_true rfl) hcs dX10_isUsed_15 rfl ?_
  refine s_iadd hX dX10_isUsed_18 ?_
  refine s_if_le (tgt := 26) hX dX10_isUsed_19 (by decide) (fun c5 => ?_) (fun c5 => ?_)
  · replace h := (if_pos c5).symm.trans h
    refine s_iconst 0 hX dX10_isUsed_26 (by decide) ?_
    obtain rfl := rt1 h
    exact hret _ _ nz0 dX10_isUsed_27
  · replace h := (if_neg c5).symm.trans h
    refine s_iconst 1 hX dX10_isUsed_22 (by decide) ?_
    refine s_goto (tgt := 27) hX dX10_isUsed_23 (by decide) ?_
    obtain rfl := rt1 h
    exact hret _ _ nz1 dX10_isUsed_27
def gX10_lowest_6 (σ : Mm) (l1 : Int32) (l2 : Int32) (a3 : Nat) (n3 : Nat) (rec : Int32 × Int32 → Option (Int32)) (x4 : Int32) (x5 : Int32) : Option (Int32) :=
  if l1 ≤ x5 then
  some x4
else
  gd x5 12 <|
  if (σ 139 x5.toNatClampNeg) = l2 then
  gd l1 12 <|
  (fX10_has σ (σ 136 l1.toNatClampNeg) x5).bind fun r4 =>
  if r4 = 0 then
  bd (x5 + 1) fun v5 =>
  rec (x4, v5)
else
  gd x5 n3 <|
  bd (x4 ||| (1 <<< ((σ a3 x5.toNatClampNeg) &&& 31))) fun v7 =>
  bd (x5 + 1) fun v8 =>
  rec (v7, v8)
else
  bd (x5 + 1) fun v2 =>
  rec (x4, v2)
def qX10_lowest_6 (σ : Mm) (l1 : Int32) (l2 : Int32) (a3 : Nat) (n3 : Nat) : Nat → Int32 × Int32 → Option (Int32) := lp (fun rec s => gX10_lowest_6 σ l1 l2 a3 n3 rec s.1 s.2)
def gX10_lowest_57 (σ : Mm) (l4 : Int32) (rec : Int32 → Option (Int32)) (x5 : Int32) : Option (Int32) :=
  (fX10_has σ l4 x5).bind fun r1 =>
  if r1 = 0 then
  some x5
else
  bd (x5 + 1) fun v2 =>
  rec v2
def qX10_lowest_57 (σ : Mm) (l4 : Int32) : Nat → Int32 → Option (Int32) := lp (fun rec s => gX10_lowest_57 σ l4 rec s)
def fX10_lowest (σ : Mm) (l1 : Int32) (l2 : Int32) (a3 : Nat) (n3 : Nat) : Option Int32 :=
  (qX10_lowest_6 σ l1 l2 a3 n3 FU (0, 0)).bind fun v1 =>
  (qX10_lowest_57 σ v1 FU 0).bind fun v2 =>
  some v2
set_option maxHeartbeats 4000000 in
theorem pX10_lowest_6 {X : sT} {cs : Nat × Nat} (hX : sX X cX10_lowest RX10 6 1 21) (hcs : cs.1 ≤ (sR X).cells ∧ cs.2 ≤ (sR X).slots) (σ : Mm) (l1 : Int32) (l2 : Int32) (a3 : Nat) (n3 : Nat) (ha3 : SH[a3]? = some (0, 0, n3, [])) : ∀ (n : Nat) (s : Int32 × Int32) (r : Int32), qX10_lowest_6 σ l1 l2 a3 n3 n s = some r → sW X 6 cs σ 54 [none, none, none, none, some (.int r), none] [] → sW X 6 cs σ 6 [some (.ref (sad X 123)), some (.int l1), some (.int l2), some (.ref (sad X a3)), some (.int s.1), some (.int s.2)] [] := by
  refine lp_ind (P := fun (s : Int32 × Int32) (r : Int32) => sW X 6 cs σ 54 [none, none, none, none, some (.int r), none] [] → sW X 6 cs σ 6 [some (.ref (sad X 123)), some (.int l1), some (.int l2), some (.ref (sad X a3)), some (.int s.1), some (.int s.2)] []) ?_
  intro rec hrec s r h0 hk
  obtain ⟨x4, x5⟩ := s
  have h : gX10_lowest_6 σ l1 l2 a3 n3 rec x4 x5 = some r := h0
  unfold gX10_lowest_6 at h
  show sW X 6 cs σ 6 [some (.ref (sad X 123)), some (.int l1), some (.int l2), some (.ref (sad X a3)), some (.int x4), some (.int x5)] []
  refine s_iload hX dX10_lowest_6 rfl ?_
  refine s_iload_n hX dX10_lowest_8 rfl ?_
  refine s_ic_ge (tgt := 54) hX dX10_lowest_9 (by decide) (fun c11 => ?_) (fun c11 => ?_)
  · replace h := (if_pos c11).symm.trans h
    obtain rfl := rt1 h
    refine s_mask [false, false, false, false, true, false] ?_
    exact hk
  · replace h := (if_neg c11).symm.trans h
    refine s_aload_n hX dX10_lowest_12 rfl ?_
    refine s_getR (r := 139) hX fo_RX10_85_9 SH_123 rfl dX10_lowest_13 ?_
    refine s_iload hX dX10_lowest_16 rfl ?_
    obtain ⟨c1, h⟩ := gd_some h
    refine s_iald hX SH_139 c1 dX10_lowest_18 ?_
    refine s_iload_n hX dX10_lowest_19 rfl ?_
    refine s_ic_ne (tgt := 48) hX dX10_lowest_20 (by decide) (fun c10 => ?_) (fun c10 => ?_)
    · replace h := (if_neg c10).symm.trans h
      obtain ⟨v2, ev2, h⟩ := bd_some h
      refine s_iinc v2 hX dX10_lowest_48 rfl (by rw [ev2]; rfl) (by decide) ?_
      refine s_goto (tgt := 6) hX dX10_lowest_51 (by decide) ?_
      refine s_mask [true, true, true, true, true, true] ?_
      exact hrec _ _ h hk
    · replace h := (if_pos c10).symm.trans h
      refine s_aload_n hX dX10_lowest_23 rfl ?_
      refine s_getR (r := 136) hX fo_RX10_64_9 SH_123 rfl dX10_lowest_24 ?_
      refine s_iload_n hX dX10_lowest_27 rfl ?_
      obtain ⟨c3, h⟩ := gd_some h
      refine s_iald hX SH_136 c3 dX10_lowest_28 ?_
      refine s_iload hX dX10_lowest_29 rfl ?_
      obtain ⟨r4, hc, h⟩ := bn_some h
      refine s_callSI _ hX (cX10_has_ok (sl X)  hc) ms_RX10_255 (fun _ => rfl) (by decide) (Nat.le_of_ble_eq_true rfl) hcs dX10_lowest_31 rfl ?_
      refine s_if_eq (tgt := 48) hX dX10_lowest_34 (by decide) (fun c9 => ?_) (fun c9 => ?_)
      · replace h := (if_pos c9).symm.trans h
        obtain ⟨v5, ev5, h⟩ := bd_some h
        refine s_iinc v5 hX dX10_lowest_48 rfl (by rw [ev5]; rfl) (by decide) ?_
        refine s_goto (tgt := 6) hX dX10_lowest_51 (by decide) ?_
        refine s_mask [true, true, true, true, true, true] ?_
        exact hrec _ _ h hk
      · replace h := (if_neg c9).symm.trans h
        refine s_iload hX dX10_lowest_37 rfl ?_
        refine s_iconst 1 hX dX10_lowest_39 (by decide) ?_
        refine s_aload_n hX dX10_lowest_40 rfl ?_
        refine s_iload hX dX10_lowest_41 rfl ?_
        obtain ⟨c6, h⟩ := gd_some h
        refine s_iald hX ha3 c6 dX10_lowest_43 ?_
        refine s_ishl hX dX10_lowest_44 ?_
        refine s_ior hX dX10_lowest_45 ?_
        obtain ⟨v7, ev7, h⟩ := bd_some h
        refine s_topi v7 ev7 ?_
        refine s_istore hX dX10_lowest_46 (by decide) ?_
        obtain ⟨v8, ev8, h⟩ := bd_some h
        refine s_iinc v8 hX dX10_lowest_48 rfl (by rw [ev8]; rfl) (by decide) ?_
        refine s_goto (tgt := 6) hX dX10_lowest_51 (by decide) ?_
        refine s_mask [true, true, true, true, true, true] ?_
        exact hrec _ _ h hk
set_option maxHeartbeats 4000000 in
theorem pX10_lowest_57 {X : sT} {cs : Nat × Nat} (hX : sX X cX10_lowest RX10 6 1 21) (hcs : cs.1 ≤ (sR X).cells ∧ cs.2 ≤ (sR X).slots) (σ : Mm) (l4 : Int32)  : ∀ (n : Nat) (s : Int32) (r : Int32), qX10_lowest_57 σ l4 n s = some r → sW X 6 cs σ 73 [none, none, none, none, none, some (.int r)] [] → sW X 6 cs σ 57 [none, none, none, none, some (.int l4), some (.int s)] [] := by
  refine lp_ind (P := fun (s : Int32) (r : Int32) => sW X 6 cs σ 73 [none, none, none, none, none, some (.int r)] [] → sW X 6 cs σ 57 [none, none, none, none, some (.int l4), some (.int s)] []) ?_
  intro rec hrec s r h0 hk
  obtain ⟨x5, e0⟩ : ∃ z, z = s := ⟨s, rfl⟩
  subst e0
  have h : gX10_lowest_57 σ l4 rec x5 = some r := h0
  unfold gX10_lowest_57 at h
  show sW X 6 cs σ 57 [none, none, none, none, some (.int l4), some (.int x5)] []
  refine s_iload hX dX10_lowest_57 rfl ?_
  refine s_iload hX dX10_lowest_59 rfl ?_
  obtain ⟨r1, hc, h⟩ := bn_some h
  refine s_callSI _ hX (cX10_has_ok (sl X)  hc) ms_RX10_255 (fun _ => rfl) (by decide) (Nat.le_of_ble_eq_true rfl) hcs dX10_lowest_61 rfl ?_
  refine s_if_eq (tgt := 73) hX dX10_lowest_64 (by decide) (fun c3 => ?_) (fun c3 => ?_)
  · replace h := (if_pos c3).symm.trans h
    obtain rfl := rt1 h
    refine s_mask [false, false, false, false, false, true] ?_
    exact hk
  · replace h := (if_neg c3).symm.trans h
    obtain ⟨v2, ev2, h⟩ := bd_some h
    refine s_iinc v2 hX dX10_lowest_67 rfl (by rw [ev2]; rfl) (by decide) ?_
    refine s_goto (tgt := 57) hX dX10_lowest_70 (by decide) ?_
    refine s_mask [false, false, false, false, true, true] ?_
    exact hrec _ _ h hk
set_option maxHeartbeats 4000000 in
theorem cX10_lowest_ok (l : Launch) {σ : Mm} {l1 : Int32} {l2 : Int32} {a3 : Nat} {n3 : Nat} {r : Int32} (ha3 : SH[a3]? = some (0, 0, n3, [])) (h : fX10_lowest σ l1 l2 a3 n3 = some r) : cI l yX10_lowest cX10_lowest 6 .int 1 21 (fun ad => [.ref (ad 123), .int l1, .int l2, .ref (ad a3)]) σ r σ := by
  refine c_enterI (fun ad => [some (.ref (ad 123)), some (.int l1), some (.int l2), some (.ref (ad a3)), none, none]) (by decide) (fun ad => ⟨by simp [Value.category], Nat.le_of_ble_eq_true rfl⟩) (fun ad => ⟨2, rfl⟩) ?_
  intro X _ hX hret
  have hcs : ((0 : Nat), (0 : Nat)).1 ≤ (sR X).cells ∧ ((0 : Nat), (0 : Nat)).2 ≤ (sR X).slots := ⟨Nat.zero_le _, Nat.zero_le _⟩
  generalize hcs0 : ((0 : Nat), (0 : Nat)) = cs at hcs hret ⊢
  unfold fX10_lowest at h
  show sW X 6 cs σ 0 [some (.ref (sad X 123)), some (.int l1), some (.int l2), some (.ref (sad X a3)), none, none] []
  refine s_iconst 0 hX dX10_lowest_0 (by decide) ?_
  refine s_istore hX dX10_lowest_1 (by decide) ?_
  refine s_iconst 0 hX dX10_lowest_3 (by decide) ?_
  refine s_istore hX dX10_lowest_4 (by decide) ?_
  obtain ⟨v1, hc, h⟩ := bn_some h
  refine s_mask [true, true, true, true, true, true] ?_
  refine pX10_lowest_6 hX hcs _ _ _ _ _ ha3 _ _ _ hc ?_
  refine s_iconst 0 hX dX10_lowest_54 (by decide) ?_
  refine s_istore hX dX10_lowest_55 (by decide) ?_
  obtain ⟨v2, hc, h⟩ := bn_some h
  refine s_mask [false, false, false, false, true, true] ?_
  refine pX10_lowest_57 hX hcs _ _ _ _ _ hc ?_
  refine s_iload hX dX10_lowest_73 rfl ?_
  obtain rfl := rt1 h
  exact hret _ _ (nzi _) dX10_lowest_75
def gX10_colours_4  (rec : Mm × Int32 × Int32 → Option (Mm × Int32)) (σ : Mm) (x1 : Int32) (x2 : Int32) : Option (Mm × Int32) :=
  if 12 ≤ x2 then
  some (σ, x1)
else
  gd x2 12 <|
  bd (upm σ 140 (upd (σ 140) x2.toNatClampNeg (-1))) fun σ2 =>
  gd x2 12 <|
  if (σ2 139 x2.toNatClampNeg) = 0 then
  (fX10_lowest σ2 x2 0 140 12).bind fun r4 =>
  gd x2 12 <|
  bd (upm σ2 140 (upd (σ2 140) x2.toNatClampNeg r4)) fun σ6 =>
  gd x2 12 <|
  bd (mx x1 ((σ6 140 x2.toNatClampNeg) + 1)) fun v8 =>
  bd (x2 + 1) fun v9 =>
  rec (σ6, v8, v9)
else
  bd (x2 + 1) fun v10 =>
  rec (σ2, x1, v10)
def qX10_colours_4  : Nat → Mm × Int32 × Int32 → Option (Mm × Int32) := lp (fun rec s => gX10_colours_4  rec s.1 s.2.1 s.2.2)
def fX10_colours (σ : Mm) : Option (Int32 × Mm) :=
  bn2 (qX10_colours_4  FU (σ, 0, 0)) fun σ1 v2 =>
  some (v2, σ1)
set_option maxHeartbeats 4000000 in
theorem pX10_colours_4 {X : sT} {cs : Nat × Nat} (hX : sX X cX10_colours RX10 3 2 46) (hcs : cs.1 ≤ (sR X).cells ∧ cs.2 ≤ (sR X).slots)   : ∀ (n : Nat) (s : Mm × Int32 × Int32) (r : Mm × Int32), qX10_colours_4  n s = some r → sW X 3 cs r.1 64 [none, some (.int r.2), none] [] → sW X 3 cs s.1 4 [some (.ref (sad X 123)), some (.int s.2.1), some (.int s.2.2)] [] := by
  refine lp_ind (P := fun (s : Mm × Int32 × Int32) (r : Mm × Int32) => sW X 3 cs r.1 64 [none, some (.int r.2), none] [] → sW X 3 cs s.1 4 [some (.ref (sad X 123)), some (.int s.2.1), some (.int s.2.2)] []) ?_
  intro rec hrec s r h0 hk
  obtain ⟨σ, x1, x2⟩ := s
  have h : gX10_colours_4  rec σ x1 x2 = some r := h0
  unfold gX10_colours_4 at h
  show sW X 3 cs σ 4 [some (.ref (sad X 123)), some (.int x1), some (.int x2)] []
  refine s_iload_n hX dX10_colours_4 rfl ?_
  refine s_bipush 12 hX dX10_colours_5 (by decide) ?_
  refine s_ic_ge (tgt := 64) hX dX10_colours_7 (by decide) (fun c12 => ?_) (fun c12 => ?_)
  · replace h := (if_pos c12).symm.trans h
    obtain rfl := rt1 h
    refine s_mask [false, true, false] ?_
    exact hk
  · replace h := (if_neg c12).symm.trans h
    refine s_aload_n hX dX10_colours_10 rfl ?_
    refine s_getR (r := 140) hX fo_RX10_88_9 SH_123 rfl dX10_colours_11 ?_
    refine s_iload_n hX dX10_colours_14 rfl ?_
    refine s_iconst (-1) hX dX10_colours_15 (by decide) ?_
    obtain ⟨c1, h⟩ := gd_some h
    obtain ⟨σ2, eσ2, h⟩ := bd_some h
    refine s_iast hX SH_140 c1 dX10_colours_16 ?_
    refine s_mem σ2 eσ2 ?_
    refine s_aload_n hX dX10_colours_17 rfl ?_
    refine s_getR (r := 139) hX fo_RX10_85_9 SH_123 rfl dX10_colours_18 ?_
    refine s_iload_n hX dX10_colours_21 rfl ?_
    obtain ⟨c3, h⟩ := gd_some h
    refine s_iald hX SH_139 c3 dX10_colours_22 ?_
    refine s_if_eq (tgt := 29) hX dX10_colours_23 (by decide) (fun c11 => ?_) (fun c11 => ?_)
    · replace h := (if_pos c11).symm.trans h
      refine s_aload_n hX dX10_colours_29 rfl ?_
      refine s_getR (r := 140) hX fo_RX10_88_9 SH_123 rfl dX10_colours_30 ?_
      refine s_iload_n hX dX10_colours_33 rfl ?_
      refine s_aload_n hX dX10_colours_34 rfl ?_
      refine s_iload_n hX dX10_colours_35 rfl ?_
      refine s_iconst 0 hX dX10_colours_36 (by decide) ?_
      refine s_aload_n hX dX10_colours_37 rfl ?_
      refine s_getR (r := 140) hX fo_RX10_88_9 SH_123 rfl dX10_colours_38 ?_
      obtain ⟨r4, hc, h⟩ := bn_some h
      refine s_callVI _ hX (cX10_lowest_ok (sl X) SH_140 hc) SH_123 mv_RX10_298_9 (fun _ => rfl) (by decide) (Nat.le_of_ble_eq_true rfl) hcs dX10_colours_41 rfl ?_
      obtain ⟨c5, h⟩ := gd_some h
      obtain ⟨σ6, eσ6, h⟩ := bd_some h
      refine s_iast hX SH_140 c5 dX10_colours_44 ?_
      refine s_mem σ6 eσ6 ?_
      refine s_iload_n hX dX10_colours_45 rfl ?_
      refine s_aload_n hX dX10_colours_46 rfl ?_
      refine s_getR (r := 140) hX fo_RX10_88_9 SH_123 rfl dX10_colours_47 ?_
      refine s_iload_n hX dX10_colours_50 rfl ?_
      obtain ⟨c7, h⟩ := gd_some h
      refine s_iald hX SH_140 c7 dX10_colours_51 ?_
      refine s_iconst 1 hX dX10_colours_52 (by decide) ?_
      refine s_iadd hX dX10_colours_53 ?_
      refine s_max hX w7_169 (by decide) (Nat.le_of_ble_eq_true rfl) hcs dX10_colours_54 ?_
      obtain ⟨v8, ev8, h⟩ := bd_some h
      refine s_topi v8 ev8 ?_
      refine s_istore_n hX dX10_colours_57 (by decide) ?_
      obtain ⟨v9, ev9, h⟩ := bd_some h
      refine s_iinc v9 hX dX10_colours_58 rfl (by rw [ev9]; rfl) (by decide) ?_
      refine s_goto (tgt := 4) hX dX10_colours_61 (by decide) ?_
      refine s_mask [true, true, true] ?_
      exact hrec _ _ h hk
    · replace h := (if_neg c11).symm.trans h
      refine s_goto (tgt := 58) hX dX10_colours_26 (by decide) ?_
      obtain ⟨v10, ev10, h⟩ := bd_some h
      refine s_iinc v10 hX dX10_colours_58 rfl (by rw [ev10]; rfl) (by decide) ?_
      refine s_goto (tgt := 4) hX dX10_colours_61 (by decide) ?_
      refine s_mask [true, true, true] ?_
      exact hrec _ _ h hk
set_option maxHeartbeats 4000000 in
theorem cX10_colours_ok (l : Launch) {σ : Mm} {r : Int32} {σ' : Mm}  (h : fX10_colours σ = some (r, σ')) : cI l yX10_colours cX10_colours 3 .int 2 46 (fun ad => [.ref (ad 123)]) σ r σ' := by
  refine c_enterI (fun ad => [some (.ref (ad 123)), none, none]) (by decide) (fun ad => ⟨by simp [Value.category], Nat.le_of_ble_eq_true rfl⟩) (fun ad => ⟨2, rfl⟩) ?_
  intro X _ hX hret
  have hcs : ((0 : Nat), (0 : Nat)).1 ≤ (sR X).cells ∧ ((0 : Nat), (0 : Nat)).2 ≤ (sR X).slots := ⟨Nat.zero_le _, Nat.zero_le _⟩
  generalize hcs0 : ((0 : Nat), (0 : Nat)) = cs at hcs hret ⊢
  unfold fX10_colours at h
  show sW X 3 cs σ 0 [some (.ref (sad X 123)), none, none] []
  refine s_iconst 0 hX dX10_colours_0 (by decide) ?_
  refine s_istore_n hX dX10_colours_1 (by decide) ?_
  refine s_iconst 0 hX dX10_colours_2 (by decide) ?_
  refine s_istore_n hX dX10_colours_3 (by decide) ?_
  obtain ⟨σ1, v2, hc, h⟩ := bn2_some h
  refine s_mask [true, true, true] ?_
  refine pX10_colours_4 hX hcs  _ _ _ hc ?_
  refine s_iload_n hX dX10_colours_64 rfl ?_
  obtain ⟨rfl, rfl⟩ := rt2 h
  exact hret _ _ (nzi _) dX10_colours_65
def gX10_begins_6  (rec : Mm × Int32 → Option (Mm)) (σ : Mm) (x1 : Int32) : Option (Mm) :=
  if 12 ≤ x1 then
  some σ
else
  (fX10_isUsed σ x1).bind fun r1 =>
  jn (fun (v2 : Int32) => gd x1 12 <|
  bd (upm σ 139 (upd (σ 139) x1.toNatClampNeg v2)) fun σ5 =>
  gd x1 12 <|
  bd (upm σ5 141 (upd (σ5 141) x1.toNatClampNeg (-1))) fun σ7 =>
  bd (x1 + 1) fun v8 =>
  rec (σ7, v8)) fun j3 =>
  if r1 = 0 then
  j3 (-1)
else
  j3 0
def qX10_begins_6  : Nat → Mm × Int32 → Option (Mm) := lp (fun rec s => gX10_begins_6  rec s.1 s.2)
def fX10_begins (σ : Mm) : Option Mm :=
  (fX10_layConflicts σ).bind fun σ1 =>
  (qX10_begins_6  FU (σ1, 0)).bind fun σ2 =>
  some σ2
set_option maxHeartbeats 4000000 in
theorem pX10_begins_6 {X : sT} {cs : Nat × Nat} (hX : sX X cX10_begins RX10 2 5 114) (hcs : cs.1 ≤ (sR X).cells ∧ cs.2 ≤ (sR X).slots)   : ∀ (n : Nat) (s : Mm × Int32) (r : Mm), qX10_begins_6  n s = some r → sW X 2 cs r 44 [none, none] [] → sW X 2 cs s.1 6 [some (.ref (sad X 123)), some (.int s.2)] [] := by
  refine lp_ind (P := fun (s : Mm × Int32) (r : Mm) => sW X 2 cs r 44 [none, none] [] → sW X 2 cs s.1 6 [some (.ref (sad X 123)), some (.int s.2)] []) ?_
  intro rec hrec s r h0 hk
  obtain ⟨σ, x1⟩ := s
  have h : gX10_begins_6  rec σ x1 = some r := h0
  unfold gX10_begins_6 at h
  show sW X 2 cs σ 6 [some (.ref (sad X 123)), some (.int x1)] []
  refine s_iload_n hX dX10_begins_6 rfl ?_
  refine s_bipush 12 hX dX10_begins_7 (by decide) ?_
  refine s_ic_ge (tgt := 44) hX dX10_begins_9 (by decide) (fun c10 => ?_) (fun c10 => ?_)
  · replace h := (if_pos c10).symm.trans h
    obtain rfl := rt1 h
    refine s_mask [false, false] ?_
    exact hk
  · replace h := (if_neg c10).symm.trans h
    refine s_aload_n hX dX10_begins_12 rfl ?_
    refine s_getR (r := 139) hX fo_RX10_85_9 SH_123 rfl dX10_begins_13 ?_
    refine s_iload_n hX dX10_begins_16 rfl ?_
    refine s_aload_n hX dX10_begins_17 rfl ?_
    refine s_iload_n hX dX10_begins_18 rfl ?_
    obtain ⟨r1, hc, h⟩ := bn_some h
    refine s_callVI _ hX (cX10_isUsed_ok (sl X)  hc) SH_123 mv_RX10_302_9 (fun _ => rfl) (by decide) (Nat.le_of_ble_eq_true rfl) hcs dX10_begins_19 rfl ?_
    refine jn_use (fun j => ∀ (v2 : Int32), j v2 = some r → sW X 2 cs σ 30 [some (.ref (sad X 123)), some (.int x1)] [.int v2, .int x1, .ref (sad X 139)]) h ?_ ?_
    · intro v2 h
      obtain ⟨c4, h⟩ := gd_some h
      obtain ⟨σ5, eσ5, h⟩ := bd_some h
      refine s_iast hX SH_139 c4 dX10_begins_30 ?_
      refine s_mem σ5 eσ5 ?_
      refine s_aload_n hX dX10_begins_31 rfl ?_
      refine s_getR (r := 141) hX fo_RX10_91_9 SH_123 rfl dX10_begins_32 ?_
      refine s_iload_n hX dX10_begins_35 rfl ?_
      refine s_iconst (-1) hX dX10_begins_36 (by decide) ?_
      obtain ⟨c6, h⟩ := gd_some h
      obtain ⟨σ7, eσ7, h⟩ := bd_some h
      refine s_iast hX SH_141 c6 dX10_begins_37 ?_
      refine s_mem σ7 eσ7 ?_
      obtain ⟨v8, ev8, h⟩ := bd_some h
      refine s_iinc v8 hX dX10_begins_38 rfl (by rw [ev8]; rfl) (by decide) ?_
      refine s_goto (tgt := 6) hX dX10_begins_41 (by decide) ?_
      refine s_mask [true, true] ?_
      exact hrec _ _ h hk
    · intro j3 hj3 h
      refine s_if_eq (tgt := 29) hX dX10_begins_22 (by decide) (fun c9 => ?_) (fun c9 => ?_)
      · replace h := (if_pos c9).symm.trans h
        refine s_iconst (-1) hX dX10_begins_29 (by decide) ?_
        refine s_mask [true, true] ?_
        exact hj3 _ h
      · replace h := (if_neg c9).symm.trans h
        refine s_iconst 0 hX dX10_begins_25 (by decide) ?_
        refine s_goto (tgt := 30) hX dX10_begins_26 (by decide) ?_
        refine s_mask [true, true] ?_
        exact hj3 _ h
set_option maxHeartbeats 4000000 in
theorem cX10_begins_ok (l : Launch) {σ : Mm} {σ' : Mm}  (h : fX10_begins σ = some σ') : cV l yX10_begins cX10_begins 2 5 114 (fun ad => [.ref (ad 123)]) σ σ' := by
  refine c_enterV (fun ad => [some (.ref (ad 123)), none]) (by decide) (fun ad => ⟨by simp [Value.category], Nat.le_of_ble_eq_true rfl⟩) (fun ad => ⟨1, rfl⟩) ?_
  intro X _ hX hret
  have hcs : ((0 : Nat), (0 : Nat)).1 ≤ (sR X).cells ∧ ((0 : Nat), (0 : Nat)).2 ≤ (sR X).slots := ⟨Nat.zero_le _, Nat.zero_le _⟩
  generalize hcs0 : ((0 : Nat), (0 : Nat)) = cs at hcs hret ⊢
  unfold fX10_begins at h
  show sW X 2 cs σ 0 [some (.ref (sad X 123)), none] []
  refine s_aload_n hX dX10_begins_0 rfl ?_
  obtain ⟨σ1, hc, h⟩ := bn_some h
  refine s_callVV _ hX (cX10_layConflicts_ok (sl X)  hc) SH_123 mv_RX10_262_9 (fun _ => rfl) (by decide) (Nat.le_of_ble_eq_true rfl) hcs dX10_begins_1 rfl ?_
  refine s_iconst 0 hX dX10_begins_4 (by decide) ?_
  refine s_istore_n hX dX10_begins_5 (by decide) ?_
  obtain ⟨σ2, hc, h⟩ := bn_some h
  refine s_mask [true, true] ?_
  refine pX10_begins_6 hX hcs  _ _ _ hc ?_
  obtain rfl := rt1 h
  exact hret _ _ dX10_begins_44
def fX10_costOut (σ : Mm) (l1 : Int32) (l2 : Int32) : Option Int32 :=
  if l2 = 0 then
  (fX10_memoryCost σ l1).bind fun r1 =>
  some r1
else
  (fX10_constantRow σ l1).bind fun r2 =>
  if r2 < 0 then
  (fX10_memoryCost σ l1).bind fun r3 =>
  some r3
else
  (fX10_all σ).bind fun r4 =>
  (fX10_sumOfUses σ l1 r4).bind fun r5 =>
  some r5
set_option maxHeartbeats 4000000 in
theorem cX10_costOut_ok (l : Launch) {σ : Mm} {l1 : Int32} {l2 : Int32} {r : Int32}  (h : fX10_costOut σ l1 l2 = some r) : cI l yX10_costOut cX10_costOut 3 .int 3 67 (fun ad => [.ref (ad 123), .int l1, .int l2]) σ r σ := by
  refine c_enterI (fun ad => [some (.ref (ad 123)), some (.int l1), some (.int l2)]) (by decide) (fun ad => ⟨by simp [Value.category], Nat.le_of_ble_eq_true rfl⟩) (fun ad => ⟨0, rfl⟩) ?_
  intro X _ hX hret
  have hcs : ((0 : Nat), (0 : Nat)).1 ≤ (sR X).cells ∧ ((0 : Nat), (0 : Nat)).2 ≤ (sR X).slots := ⟨Nat.zero_le _, Nat.zero_le _⟩
  generalize hcs0 : ((0 : Nat), (0 : Nat)) = cs at hcs hret ⊢
  unfold fX10_costOut at h
  show sW X 3 cs σ 0 [some (.ref (sad X 123)), some (.int l1), some (.int l2)] []
  refine s_iload_n hX dX10_costOut_0 rfl ?_
  refine s_if_eq (tgt := 24) hX dX10_costOut_1 (by decide) (fun c7 => ?_) (fun c7 => ?_)
  · replace h := (if_pos c7).symm.trans h
    refine s_aload_n hX dX10_costOut_24 rfl ?_
    refine s_iload_n hX dX10_costOut_25 rfl ?_
    obtain ⟨r1, hc, h⟩ := bn_some h
    refine s_callVI _ hX (cX10_memoryCost_ok (sl X)  hc) SH_123 mv_RX10_292_9 (fun _ => rfl) (by decide) (Nat.le_of_ble_eq_true rfl) hcs dX10_costOut_26 rfl ?_
    obtain rfl := rt1 h
    exact hret _ _ (nzi _) dX10_costOut_29
  · replace h := (if_neg c7).symm.trans h
    refine s_aload_n hX dX10_costOut_4 rfl ?_
    refine s_iload_n hX dX10_costOut_5 rfl ?_
    obtain ⟨r2, hc, h⟩ := bn_some h
    refine s_callVI _ hX (cX10_constantRow_ok (sl X)  hc) SH_123 mv_RX10_295_9 (fun _ => rfl) (by decide) (Nat.le_of_ble_eq_true rfl) hcs dX10_costOut_6 rfl ?_
    refine s_if_lt (tgt := 24) hX dX10_costOut_9 (by decide) (fun c6 => ?_) (fun c6 => ?_)
    · replace h := (if_pos c6).symm.trans h
      refine s_aload_n hX dX10_costOut_24 rfl ?_
      refine s_iload_n hX dX10_costOut_25 rfl ?_
      obtain ⟨r3, hc, h⟩ := bn_some h
      refine s_callVI _ hX (cX10_memoryCost_ok (sl X)  hc) SH_123 mv_RX10_292_9 (fun _ => rfl) (by decide) (Nat.le_of_ble_eq_true rfl) hcs dX10_costOut_26 rfl ?_
      obtain rfl := rt1 h
      exact hret _ _ (nzi _) dX10_costOut_29
    · replace h := (if_neg c6).symm.trans h
      refine s_aload_n hX dX10_costOut_12 rfl ?_
      refine s_iload_n hX dX10_costOut_13 rfl ?_
      refine s_aload_n hX dX10_costOut_14 rfl ?_
      obtain ⟨r4, hc, h⟩ := bn_some h
      refine s_callVI _ hX (cX10_all_ok (sl X)  hc) SH_123 mv_RX10_282_9 (fun _ => rfl) (by decide) (Nat.le_of_ble_eq_true rfl) hcs dX10_costOut_15 rfl ?_
      obtain ⟨r5, hc, h⟩ := bn_some h
      refine s_callVI _ hX (cX10_sumOfUses_ok (sl X)  hc) SH_123 mv_RX10_286_9 (fun _ => rfl) (by decide) (Nat.le_of_ble_eq_true rfl) hcs dX10_costOut_18 rfl ?_
      refine s_goto (tgt := 29) hX dX10_costOut_21 (by decide) ?_
      obtain rfl := rt1 h
      exact hret _ _ (nzi _) dX10_costOut_29
def gX10_putsOut_2 (σ : Mm) (l1 : Int32) (rec : Int32 → Option (Int32)) (x2 : Int32) : Option (Int32) :=
  gd x2 12 <|
  if (σ 123 20) ≤ (σ 140 x2.toNatClampNeg) then
  some x2
else
  bd (x2 + 1) fun v2 =>
  rec v2
def qX10_putsOut_2 (σ : Mm) (l1 : Int32) : Nat → Int32 → Option (Int32) := lp (fun rec s => gX10_putsOut_2 σ l1 rec s)
def gX10_putsOut_26 (σ : Mm) (l1 : Int32) (l2 : Int32) (rec : Int32 × Int32 → Option (Int32)) (x3 : Int32) (x4 : Int32) : Option (Int32) :=
  if 12 ≤ x4 then
  some x3
else
  gd x4 12 <|
  if (σ 139 x4.toNatClampNeg) = 0 then
  jn (fun (_u : Unit) => if x3 < 0 then
  bd (x4 + 1) fun v4 =>
  rec (x4, v4)
else
  (fX10_costOut σ x4 l1).bind fun r5 =>
  (fX10_costOut σ x3 l1).bind fun r6 =>
  if r6 ≤ r5 then
  bd (x4 + 1) fun v7 =>
  rec (x3, v7)
else
  bd (x4 + 1) fun v8 =>
  rec (x4, v8)) fun j3 =>
  if x4 = l2 then
  j3 ()
else
  gd l2 12 <|
  (fX10_has σ (σ 136 l2.toNatClampNeg) x4).bind fun r12 =>
  if r12 = 0 then
  bd (x4 + 1) fun v13 =>
  rec (x3, v13)
else
  j3 ()
else
  bd (x4 + 1) fun v2 =>
  rec (x3, v2)
def qX10_putsOut_26 (σ : Mm) (l1 : Int32) (l2 : Int32) : Nat → Int32 × Int32 → Option (Int32) := lp (fun rec s => gX10_putsOut_26 σ l1 l2 rec s.1 s.2)
def fX10_putsOut (σ : Mm) (l1 : Int32) : Option Mm :=
  (qX10_putsOut_2 σ l1 FU 0).bind fun v1 =>
  (qX10_putsOut_26 σ l1 v1 FU ((-1), 0)).bind fun v2 =>
  if l1 = 0 then
  gd v2 12 <|
  bd (upm σ 139 (upd (σ 139) v2.toNatClampNeg 1)) fun σ4 =>
  some σ4
else
  (fX10_constantRow σ v2).bind fun r5 =>
  if r5 < 0 then
  gd v2 12 <|
  bd (upm σ 139 (upd (σ 139) v2.toNatClampNeg 1)) fun σ7 =>
  some σ7
else
  gd v2 12 <|
  bd (upm σ 139 (upd (σ 139) v2.toNatClampNeg 2)) fun σ9 =>
  some σ9
set_option maxHeartbeats 4000000 in
theorem pX10_putsOut_2 {X : sT} {cs : Nat × Nat} (hX : sX X cX10_putsOut RX10 5 4 89) (hcs : cs.1 ≤ (sR X).cells ∧ cs.2 ≤ (sR X).slots) (σ : Mm) (l1 : Int32)  : ∀ (n : Nat) (s : Int32) (r : Int32), qX10_putsOut_2 σ l1 n s = some r → sW X 5 cs σ 21 [some (.ref (sad X 123)), some (.int l1), some (.int r), none, none] [] → sW X 5 cs σ 2 [some (.ref (sad X 123)), some (.int l1), some (.int s), none, none] [] := by
  refine lp_ind (P := fun (s : Int32) (r : Int32) => sW X 5 cs σ 21 [some (.ref (sad X 123)), some (.int l1), some (.int r), none, none] [] → sW X 5 cs σ 2 [some (.ref (sad X 123)), some (.int l1), some (.int s), none, none] []) ?_
  intro rec hrec s r h0 hk
  obtain ⟨x2, e0⟩ : ∃ z, z = s := ⟨s, rfl⟩
  subst e0
  have h : gX10_putsOut_2 σ l1 rec x2 = some r := h0
  unfold gX10_putsOut_2 at h
  show sW X 5 cs σ 2 [some (.ref (sad X 123)), some (.int l1), some (.int x2), none, none] []
  refine s_aload_n hX dX10_putsOut_2 rfl ?_
  refine s_getR (r := 140) hX fo_RX10_88_9 SH_123 rfl dX10_putsOut_3 ?_
  refine s_iload_n hX dX10_putsOut_6 rfl ?_
  obtain ⟨c1, h⟩ := gd_some h
  refine s_iald hX SH_140 c1 dX10_putsOut_7 ?_
  refine s_aload_n hX dX10_putsOut_8 rfl ?_
  refine s_getI hX fo_RX10_76_9 SH_123 rfl dX10_putsOut_9 ?_
  refine s_ic_ge (tgt := 21) hX dX10_putsOut_12 (by decide) (fun c3 => ?_) (fun c3 => ?_)
  · replace h := (if_pos c3).symm.trans h
    obtain rfl := rt1 h
    refine s_mask [true, true, true, false, false] ?_
    exact hk
  · replace h := (if_neg c3).symm.trans h
    obtain ⟨v2, ev2, h⟩ := bd_some h
    refine s_iinc v2 hX dX10_putsOut_15 rfl (by rw [ev2]; rfl) (by decide) ?_
    refine s_goto (tgt := 2) hX dX10_putsOut_18 (by decide) ?_
    refine s_mask [true, true, true, false, false] ?_
    exact hrec _ _ h hk
set_option maxHeartbeats 4000000 in
theorem pX10_putsOut_26 {X : sT} {cs : Nat × Nat} (hX : sX X cX10_putsOut RX10 5 4 89) (hcs : cs.1 ≤ (sR X).cells ∧ cs.2 ≤ (sR X).slots) (σ : Mm) (l1 : Int32) (l2 : Int32)  : ∀ (n : Nat) (s : Int32 × Int32) (r : Int32), qX10_putsOut_26 σ l1 l2 n s = some r → sW X 5 cs σ 95 [some (.ref (sad X 123)), some (.int l1), none, some (.int r), none] [] → sW X 5 cs σ 26 [some (.ref (sad X 123)), some (.int l1), some (.int l2), some (.int s.1), some (.int s.2)] [] := by
  refine lp_ind (P := fun (s : Int32 × Int32) (r : Int32) => sW X 5 cs σ 95 [some (.ref (sad X 123)), some (.int l1), none, some (.int r), none] [] → sW X 5 cs σ 26 [some (.ref (sad X 123)), some (.int l1), some (.int l2), some (.int s.1), some (.int s.2)] []) ?_
  intro rec hrec s r h0 hk
  obtain ⟨x3, x4⟩ := s
  have h : gX10_putsOut_26 σ l1 l2 rec x3 x4 = some r := h0
  unfold gX10_putsOut_26 at h
  show sW X 5 cs σ 26 [some (.ref (sad X 123)), some (.int l1), some (.int l2), some (.int x3), some (.int x4)] []
  refine s_iload hX dX10_putsOut_26 rfl ?_
  refine s_bipush 12 hX dX10_putsOut_28 (by decide) ?_
  refine s_ic_ge (tgt := 95) hX dX10_putsOut_30 (by decide) (fun c17 => ?_) (fun c17 => ?_)
  · replace h := (if_pos c17).symm.trans h
    obtain rfl := rt1 h
    refine s_mask [true, true, false, true, false] ?_
    exact hk
  · replace h := (if_neg c17).symm.trans h
    refine s_aload_n hX dX10_putsOut_33 rfl ?_
    refine s_getR (r := 139) hX fo_RX10_85_9 SH_123 rfl dX10_putsOut_34 ?_
    refine s_iload hX dX10_putsOut_37 rfl ?_
    obtain ⟨c1, h⟩ := gd_some h
    refine s_iald hX SH_139 c1 dX10_putsOut_39 ?_
    refine s_if_ne (tgt := 89) hX dX10_putsOut_40 (by decide) (fun c16 => ?_) (fun c16 => ?_)
    · replace h := (if_neg c16).symm.trans h
      obtain ⟨v2, ev2, h⟩ := bd_some h
      refine s_iinc v2 hX dX10_putsOut_89 rfl (by rw [ev2]; rfl) (by decide) ?_
      refine s_goto (tgt := 26) hX dX10_putsOut_92 (by decide) ?_
      refine s_mask [true, true, true, true, true] ?_
      exact hrec _ _ h hk
    · replace h := (if_pos c16).symm.trans h
      refine s_iload hX dX10_putsOut_43 rfl ?_
      refine s_iload_n hX dX10_putsOut_45 rfl ?_
      refine jn_use (fun j => ∀ (_u : Unit), j _u = some r → sW X 5 cs σ 66 [some (.ref (sad X 123)), some (.int l1), some (.int l2), some (.int x3), some (.int x4)] []) h ?_ ?_
      · intro _u h
        refine s_iload_n hX dX10_putsOut_66 rfl ?_
        refine s_if_lt (tgt := 86) hX dX10_putsOut_67 (by decide) (fun c10 => ?_) (fun c10 => ?_)
        · replace h := (if_pos c10).symm.trans h
          refine s_iload hX dX10_putsOut_86 rfl ?_
          refine s_istore_n hX dX10_putsOut_88 (by decide) ?_
          obtain ⟨v4, ev4, h⟩ := bd_some h
          refine s_iinc v4 hX dX10_putsOut_89 rfl (by rw [ev4]; rfl) (by decide) ?_
          refine s_goto (tgt := 26) hX dX10_putsOut_92 (by decide) ?_
          refine s_mask [true, true, true, true, true] ?_
          exact hrec _ _ h hk
        · replace h := (if_neg c10).symm.trans h
          refine s_aload_n hX dX10_putsOut_70 rfl ?_
          refine s_iload hX dX10_putsOut_71 rfl ?_
          refine s_iload_n hX dX10_putsOut_73 rfl ?_
          obtain ⟨r5, hc, h⟩ := bn_some h
          refine s_callVI _ hX (cX10_costOut_ok (sl X)  hc) SH_123 mv_RX10_305_9 (fun _ => rfl) (by decide) (Nat.le_of_ble_eq_true rfl) hcs dX10_putsOut_74 rfl ?_
          refine s_aload_n hX dX10_putsOut_77 rfl ?_
          refine s_iload_n hX dX10_putsOut_78 rfl ?_
          refine s_iload_n hX dX10_putsOut_79 rfl ?_
          obtain ⟨r6, hc, h⟩ := bn_some h
          refine s_callVI _ hX (cX10_costOut_ok (sl X)  hc) SH_123 mv_RX10_305_9 (fun _ => rfl) (by decide) (Nat.le_of_ble_eq_true rfl) hcs dX10_putsOut_80 rfl ?_
          refine s_ic_ge (tgt := 89) hX dX10_putsOut_83 (by decide) (fun c9 => ?_) (fun c9 => ?_)
          · replace h := (if_pos c9).symm.trans h
            obtain ⟨v7, ev7, h⟩ := bd_some h
            refine s_iinc v7 hX dX10_putsOut_89 rfl (by rw [ev7]; rfl) (by decide) ?_
            refine s_goto (tgt := 26) hX dX10_putsOut_92 (by decide) ?_
            refine s_mask [true, true, true, true, true] ?_
            exact hrec _ _ h hk
          · replace h := (if_neg c9).symm.trans h
            refine s_iload hX dX10_putsOut_86 rfl ?_
            refine s_istore_n hX dX10_putsOut_88 (by decide) ?_
            obtain ⟨v8, ev8, h⟩ := bd_some h
            refine s_iinc v8 hX dX10_putsOut_89 rfl (by rw [ev8]; rfl) (by decide) ?_
            refine s_goto (tgt := 26) hX dX10_putsOut_92 (by decide) ?_
            refine s_mask [true, true, true, true, true] ?_
            exact hrec _ _ h hk
      · intro j3 hj3 h
        refine s_ic_eq (tgt := 66) hX dX10_putsOut_46 (by decide) (fun c15 => ?_) (fun c15 => ?_)
        · replace h := (if_pos c15).symm.trans h
          refine s_mask [true, true, true, true, true] ?_
          exact hj3 _ h
        · replace h := (if_neg c15).symm.trans h
          refine s_aload_n hX dX10_putsOut_49 rfl ?_
          refine s_getR (r := 136) hX fo_RX10_64_9 SH_123 rfl dX10_putsOut_50 ?_
          refine s_iload_n hX dX10_putsOut_53 rfl ?_
          obtain ⟨c11, h⟩ := gd_some h
          refine s_iald hX SH_136 c11 dX10_putsOut_54 ?_
          refine s_iload hX dX10_putsOut_55 rfl ?_
          obtain ⟨r12, hc, h⟩ := bn_some h
          refine s_callSI _ hX (cX10_has_ok (sl X)  hc) ms_RX10_255 (fun _ => rfl) (by decide) (Nat.le_of_ble_eq_true rfl) hcs dX10_putsOut_57 rfl ?_
          refine s_if_ne (tgt := 66) hX dX10_putsOut_60 (by decide) (fun c14 => ?_) (fun c14 => ?_)
          · replace h := (if_neg c14).symm.trans h
            refine s_mask [true, true, true, true, true] ?_
            exact hj3 _ h
          · replace h := (if_pos c14).symm.trans h
            refine s_goto (tgt := 89) hX dX10_putsOut_63 (by decide) ?_
            obtain ⟨v13, ev13, h⟩ := bd_some h
            refine s_iinc v13 hX dX10_putsOut_89 rfl (by rw [ev13]; rfl) (by decide) ?_
            refine s_goto (tgt := 26) hX dX10_putsOut_92 (by decide) ?_
            refine s_mask [true, true, true, true, true] ?_
            exact hrec _ _ h hk
set_option maxHeartbeats 4000000 in
theorem cX10_putsOut_ok (l : Launch) {σ : Mm} {l1 : Int32} {σ' : Mm}  (h : fX10_putsOut σ l1 = some σ') : cV l yX10_putsOut cX10_putsOut 5 4 89 (fun ad => [.ref (ad 123), .int l1]) σ σ' := by
  refine c_enterV (fun ad => [some (.ref (ad 123)), some (.int l1), none, none, none]) (by decide) (fun ad => ⟨by simp [Value.category], Nat.le_of_ble_eq_true rfl⟩) (fun ad => ⟨3, rfl⟩) ?_
  intro X _ hX hret
  have hcs : ((0 : Nat), (0 : Nat)).1 ≤ (sR X).cells ∧ ((0 : Nat), (0 : Nat)).2 ≤ (sR X).slots := ⟨Nat.zero_le _, Nat.zero_le _⟩
  generalize hcs0 : ((0 : Nat), (0 : Nat)) = cs at hcs hret ⊢
  unfold fX10_putsOut at h
  show sW X 5 cs σ 0 [some (.ref (sad X 123)), some (.int l1), none, none, none] []
  refine s_iconst 0 hX dX10_putsOut_0 (by decide) ?_
  refine s_istore_n hX dX10_putsOut_1 (by decide) ?_
  obtain ⟨v1, hc, h⟩ := bn_some h
  refine s_mask [true, true, true, false, false] ?_
  refine pX10_putsOut_2 hX hcs _ _ _ _ _ hc ?_
  refine s_iconst (-1) hX dX10_putsOut_21 (by decide) ?_
  refine s_istore_n hX dX10_putsOut_22 (by decide) ?_
  refine s_iconst 0 hX dX10_putsOut_23 (by decide) ?_
  refine s_istore hX dX10_putsOut_24 (by decide) ?_
  obtain ⟨v2, hc, h⟩ := bn_some h
  refine s_mask [true, true, true, true, true] ?_
  refine pX10_putsOut_26 hX hcs _ _ _ _ _ _ hc ?_
  refine s_aload_n hX dX10_putsOut_95 rfl ?_
  refine s_getR (r := 139) hX fo_RX10_85_9 SH_123 rfl dX10_putsOut_96 ?_
  refine s_iload_n hX dX10_putsOut_99 rfl ?_
  refine s_iload_n hX dX10_putsOut_100 rfl ?_
  refine s_if_eq (tgt := 116) hX dX10_putsOut_101 (by decide) (fun c11 => ?_) (fun c11 => ?_)
  · replace h := (if_pos c11).symm.trans h
    refine s_iconst 1 hX dX10_putsOut_116 (by decide) ?_
    obtain ⟨c3, h⟩ := gd_some h
    obtain ⟨σ4, eσ4, h⟩ := bd_some h
    refine s_iast hX SH_139 c3 dX10_putsOut_117 ?_
    refine s_mem σ4 eσ4 ?_
    obtain rfl := rt1 h
    exact hret _ _ dX10_putsOut_118
  · replace h := (if_neg c11).symm.trans h
    refine s_aload_n hX dX10_putsOut_104 rfl ?_
    refine s_iload_n hX dX10_putsOut_105 rfl ?_
    obtain ⟨r5, hc, h⟩ := bn_some h
    refine s_callVI _ hX (cX10_constantRow_ok (sl X)  hc) SH_123 mv_RX10_295_9 (fun _ => rfl) (by decide) (Nat.le_of_ble_eq_true rfl) hcs dX10_putsOut_106 rfl ?_
    refine s_if_lt (tgt := 116) hX dX10_putsOut_109 (by decide) (fun c10 => ?_) (fun c10 => ?_)
    · replace h := (if_pos c10).symm.trans h
      refine s_iconst 1 hX dX10_putsOut_116 (by decide) ?_
      obtain ⟨c6, h⟩ := gd_some h
      obtain ⟨σ7, eσ7, h⟩ := bd_some h
      refine s_iast hX SH_139 c6 dX10_putsOut_117 ?_
      refine s_mem σ7 eσ7 ?_
      obtain rfl := rt1 h
      exact hret _ _ dX10_putsOut_118
    · replace h := (if_neg c10).symm.trans h
      refine s_iconst 2 hX dX10_putsOut_112 (by decide) ?_
      refine s_goto (tgt := 117) hX dX10_putsOut_113 (by decide) ?_
      obtain ⟨c8, h⟩ := gd_some h
      obtain ⟨σ9, eσ9, h⟩ := bd_some h
      refine s_iast hX SH_139 c8 dX10_putsOut_117 ?_
      refine s_mem σ9 eσ9 ?_
      obtain rfl := rt1 h
      exact hret _ _ dX10_putsOut_118
def gX10_targetsIn_15 (σ : Mm) (l1 : Int32) (l3 : Int32) (rec : Int32 × Int32 → Option (Int32)) (x2 : Int32) (x4 : Int32) : Option (Int32) :=
  gd l3 8 <|
  if (σ 124 l3.toNatClampNeg) ≤ x4 then
  some x2
else
  (fX10_has σ l1 l3).bind fun r2 =>
  if r2 = 0 then
  some x2
else
  gd ((8 * l3) + x4) 64 <|
  bd (x2 ||| (1 <<< ((σ 131 ((8 * l3) + x4).toNatClampNeg) &&& 31))) fun v4 =>
  bd (x4 + 1) fun v5 =>
  rec (v4, v5)
def qX10_targetsIn_15 (σ : Mm) (l1 : Int32) (l3 : Int32) : Nat → Int32 × Int32 → Option (Int32) := lp (fun rec s => gX10_targetsIn_15 σ l1 l3 rec s.1 s.2)
def gX10_targetsIn_4 (σ : Mm) (l1 : Int32) (rec : Int32 × Int32 → Option (Int32)) (x2 : Int32) (x3 : Int32) : Option (Int32) :=
  if (σ 123 1) ≤ x3 then
  some x2
else
  (qX10_targetsIn_15 σ l1 x3 FU (x2, 0)).bind fun v1 =>
  bd (x3 + 1) fun v2 =>
  rec (v1, v2)
def qX10_targetsIn_4 (σ : Mm) (l1 : Int32) : Nat → Int32 × Int32 → Option (Int32) := lp (fun rec s => gX10_targetsIn_4 σ l1 rec s.1 s.2)
def fX10_targetsIn (σ : Mm) (l1 : Int32) : Option Int32 :=
  (qX10_targetsIn_4 σ l1 FU (0, 0)).bind fun v1 =>
  some v1
set_option maxHeartbeats 4000000 in
theorem pX10_targetsIn_15 {X : sT} {cs : Nat × Nat} (hX : sX X cX10_targetsIn RX10 5 1 21) (hcs : cs.1 ≤ (sR X).cells ∧ cs.2 ≤ (sR X).slots) (σ : Mm) (l1 : Int32) (l3 : Int32)  : ∀ (n : Nat) (s : Int32 × Int32) (r : Int32), qX10_targetsIn_15 σ l1 l3 n s = some r → sW X 5 cs σ 57 [some (.ref (sad X 123)), some (.int l1), some (.int r), some (.int l3), none] [] → sW X 5 cs σ 15 [some (.ref (sad X 123)), some (.int l1), some (.int s.1), some (.int l3), some (.int s.2)] [] := by
  refine lp_ind (P := fun (s : Int32 × Int32) (r : Int32) => sW X 5 cs σ 57 [some (.ref (sad X 123)), some (.int l1), some (.int r), some (.int l3), none] [] → sW X 5 cs σ 15 [some (.ref (sad X 123)), some (.int l1), some (.int s.1), some (.int l3), some (.int s.2)] []) ?_
  intro rec hrec s r h0 hk
  obtain ⟨x2, x4⟩ := s
  have h : gX10_targetsIn_15 σ l1 l3 rec x2 x4 = some r := h0
  unfold gX10_targetsIn_15 at h
  show sW X 5 cs σ 15 [some (.ref (sad X 123)), some (.int l1), some (.int x2), some (.int l3), some (.int x4)] []
  refine s_iload hX dX10_targetsIn_15 rfl ?_
  refine s_aload_n hX dX10_targetsIn_17 rfl ?_
  refine s_getR (r := 124) hX fo_RX10_23_9 SH_123 rfl dX10_targetsIn_18 ?_
  refine s_iload_n hX dX10_targetsIn_21 rfl ?_
  obtain ⟨c1, h⟩ := gd_some h
  refine s_iald hX SH_124 c1 dX10_targetsIn_22 ?_
  refine s_ic_ge (tgt := 57) hX dX10_targetsIn_23 (by decide) (fun c7 => ?_) (fun c7 => ?_)
  · replace h := (if_pos c7).symm.trans h
    obtain rfl := rt1 h
    refine s_mask [true, true, true, true, false] ?_
    exact hk
  · replace h := (if_neg c7).symm.trans h
    refine s_iload_n hX dX10_targetsIn_26 rfl ?_
    refine s_iload_n hX dX10_targetsIn_27 rfl ?_
    obtain ⟨r2, hc, h⟩ := bn_some h
    refine s_callSI _ hX (cX10_has_ok (sl X)  hc) ms_RX10_255 (fun _ => rfl) (by decide) (Nat.le_of_ble_eq_true rfl) hcs dX10_targetsIn_28 rfl ?_
    refine s_if_eq (tgt := 57) hX dX10_targetsIn_31 (by decide) (fun c6 => ?_) (fun c6 => ?_)
    · replace h := (if_pos c6).symm.trans h
      obtain rfl := rt1 h
      refine s_mask [true, true, true, true, false] ?_
      exact hk
    · replace h := (if_neg c6).symm.trans h
      refine s_iload_n hX dX10_targetsIn_34 rfl ?_
      refine s_iconst 1 hX dX10_targetsIn_35 (by decide) ?_
      refine s_aload_n hX dX10_targetsIn_36 rfl ?_
      refine s_getR (r := 131) hX fo_RX10_45_9 SH_123 rfl dX10_targetsIn_37 ?_
      refine s_bipush 8 hX dX10_targetsIn_40 (by decide) ?_
      refine s_iload_n hX dX10_targetsIn_42 rfl ?_
      refine s_imul hX dX10_targetsIn_43 ?_
      refine s_iload hX dX10_targetsIn_44 rfl ?_
      refine s_iadd hX dX10_targetsIn_46 ?_
      obtain ⟨c3, h⟩ := gd_some h
      refine s_iald hX SH_131 c3 dX10_targetsIn_47 ?_
      refine s_ishl hX dX10_targetsIn_48 ?_
      refine s_ior hX dX10_targetsIn_49 ?_
      obtain ⟨v4, ev4, h⟩ := bd_some h
      refine s_topi v4 ev4 ?_
      refine s_istore_n hX dX10_targetsIn_50 (by decide) ?_
      obtain ⟨v5, ev5, h⟩ := bd_some h
      refine s_iinc v5 hX dX10_targetsIn_51 rfl (by rw [ev5]; rfl) (by decide) ?_
      refine s_goto (tgt := 15) hX dX10_targetsIn_54 (by decide) ?_
      refine s_mask [true, true, true, true, true] ?_
      exact hrec _ _ h hk
set_option maxHeartbeats 4000000 in
theorem pX10_targetsIn_4 {X : sT} {cs : Nat × Nat} (hX : sX X cX10_targetsIn RX10 5 1 21) (hcs : cs.1 ≤ (sR X).cells ∧ cs.2 ≤ (sR X).slots) (σ : Mm) (l1 : Int32)  : ∀ (n : Nat) (s : Int32 × Int32) (r : Int32), qX10_targetsIn_4 σ l1 n s = some r → sW X 5 cs σ 63 [none, none, some (.int r), none, none] [] → sW X 5 cs σ 4 [some (.ref (sad X 123)), some (.int l1), some (.int s.1), some (.int s.2), none] [] := by
  refine lp_ind (P := fun (s : Int32 × Int32) (r : Int32) => sW X 5 cs σ 63 [none, none, some (.int r), none, none] [] → sW X 5 cs σ 4 [some (.ref (sad X 123)), some (.int l1), some (.int s.1), some (.int s.2), none] []) ?_
  intro rec hrec s r h0 hk
  obtain ⟨x2, x3⟩ := s
  have h : gX10_targetsIn_4 σ l1 rec x2 x3 = some r := h0
  unfold gX10_targetsIn_4 at h
  show sW X 5 cs σ 4 [some (.ref (sad X 123)), some (.int l1), some (.int x2), some (.int x3), none] []
  refine s_iload_n hX dX10_targetsIn_4 rfl ?_
  refine s_aload_n hX dX10_targetsIn_5 rfl ?_
  refine s_getI hX fo_RX10_17_9 SH_123 rfl dX10_targetsIn_6 ?_
  refine s_ic_ge (tgt := 63) hX dX10_targetsIn_9 (by decide) (fun c3 => ?_) (fun c3 => ?_)
  · replace h := (if_pos c3).symm.trans h
    obtain rfl := rt1 h
    refine s_mask [false, false, true, false, false] ?_
    exact hk
  · replace h := (if_neg c3).symm.trans h
    refine s_iconst 0 hX dX10_targetsIn_12 (by decide) ?_
    refine s_istore hX dX10_targetsIn_13 (by decide) ?_
    obtain ⟨v1, hc, h⟩ := bn_some h
    refine s_mask [true, true, true, true, true] ?_
    refine pX10_targetsIn_15 hX hcs _ _ _ _ _ _ hc ?_
    obtain ⟨v2, ev2, h⟩ := bd_some h
    refine s_iinc v2 hX dX10_targetsIn_57 rfl (by rw [ev2]; rfl) (by decide) ?_
    refine s_goto (tgt := 4) hX dX10_targetsIn_60 (by decide) ?_
    refine s_mask [true, true, true, true, false] ?_
    exact hrec _ _ h hk
set_option maxHeartbeats 4000000 in
theorem cX10_targetsIn_ok (l : Launch) {σ : Mm} {l1 : Int32} {r : Int32}  (h : fX10_targetsIn σ l1 = some r) : cI l yX10_targetsIn cX10_targetsIn 5 .int 1 21 (fun ad => [.ref (ad 123), .int l1]) σ r σ := by
  refine c_enterI (fun ad => [some (.ref (ad 123)), some (.int l1), none, none, none]) (by decide) (fun ad => ⟨by simp [Value.category], Nat.le_of_ble_eq_true rfl⟩) (fun ad => ⟨3, rfl⟩) ?_
  intro X _ hX hret
  have hcs : ((0 : Nat), (0 : Nat)).1 ≤ (sR X).cells ∧ ((0 : Nat), (0 : Nat)).2 ≤ (sR X).slots := ⟨Nat.zero_le _, Nat.zero_le _⟩
  generalize hcs0 : ((0 : Nat), (0 : Nat)) = cs at hcs hret ⊢
  unfold fX10_targetsIn at h
  show sW X 5 cs σ 0 [some (.ref (sad X 123)), some (.int l1), none, none, none] []
  refine s_iconst 0 hX dX10_targetsIn_0 (by decide) ?_
  refine s_istore_n hX dX10_targetsIn_1 (by decide) ?_
  refine s_iconst 0 hX dX10_targetsIn_2 (by decide) ?_
  refine s_istore_n hX dX10_targetsIn_3 (by decide) ?_
  obtain ⟨v1, hc, h⟩ := bn_some h
  refine s_mask [true, true, true, true, false] ?_
  refine pX10_targetsIn_4 hX hcs _ _ _ _ _ hc ?_
  refine s_iload_n hX dX10_targetsIn_63 rfl ?_
  obtain rfl := rt1 h
  exact hret _ _ (nzi _) dX10_targetsIn_64
def gX10_presentIn_45 (σ : Mm) (l1 : Int32) (l3 : Int32) (rec : Int32 × Int32 → Option (Int32)) (x2 : Int32) (x4 : Int32) : Option (Int32) :=
  gd l3 8 <|
  if (σ 124 l3.toNatClampNeg) ≤ x4 then
  some x2
else
  (fX10_usesOf σ ((8 * l3) + x4)).bind fun r2 =>
  bd (x2 ||| r2) fun v3 =>
  bd (x4 + 1) fun v4 =>
  rec (v3, v4)
def qX10_presentIn_45 (σ : Mm) (l1 : Int32) (l3 : Int32) : Nat → Int32 × Int32 → Option (Int32) := lp (fun rec s => gX10_presentIn_45 σ l1 l3 rec s.1 s.2)
def gX10_presentIn_8 (σ : Mm) (l1 : Int32) (rec : Int32 × Int32 → Option (Int32)) (x2 : Int32) (x3 : Int32) : Option (Int32) :=
  if (σ 123 1) ≤ x3 then
  some x2
else
  (fX10_has σ l1 x3).bind fun r1 =>
  if r1 = 0 then
  bd (x3 + 1) fun v7 =>
  rec (x2, v7)
else
  gd x3 8 <|
  (fX10_endUse σ x3).bind fun r3 =>
  bd (x2 ||| ((σ 135 x3.toNatClampNeg) ||| r3)) fun v4 =>
  (qX10_presentIn_45 σ l1 x3 FU (v4, 0)).bind fun v5 =>
  bd (x3 + 1) fun v6 =>
  rec (v5, v6)
def qX10_presentIn_8 (σ : Mm) (l1 : Int32) : Nat → Int32 × Int32 → Option (Int32) := lp (fun rec s => gX10_presentIn_8 σ l1 rec s.1 s.2)
def fX10_presentIn (σ : Mm) (l1 : Int32) : Option Int32 :=
  (fX10_targetsIn σ l1).bind fun r1 =>
  (qX10_presentIn_8 σ l1 FU (r1, 0)).bind fun v2 =>
  some v2
set_option maxHeartbeats 4000000 in
theorem pX10_presentIn_45 {X : sT} {cs : Nat × Nat} (hX : sX X cX10_presentIn RX10 5 2 45) (hcs : cs.1 ≤ (sR X).cells ∧ cs.2 ≤ (sR X).slots) (σ : Mm) (l1 : Int32) (l3 : Int32)  : ∀ (n : Nat) (s : Int32 × Int32) (r : Int32), qX10_presentIn_45 σ l1 l3 n s = some r → sW X 5 cs σ 76 [some (.ref (sad X 123)), some (.int l1), some (.int r), some (.int l3), none] [] → sW X 5 cs σ 45 [some (.ref (sad X 123)), some (.int l1), some (.int s.1), some (.int l3), some (.int s.2)] [] := by
  refine lp_ind (P := fun (s : Int32 × Int32) (r : Int32) => sW X 5 cs σ 76 [some (.ref (sad X 123)), some (.int l1), some (.int r), some (.int l3), none] [] → sW X 5 cs σ 45 [some (.ref (sad X 123)), some (.int l1), some (.int s.1), some (.int l3), some (.int s.2)] []) ?_
  intro rec hrec s r h0 hk
  obtain ⟨x2, x4⟩ := s
  have h : gX10_presentIn_45 σ l1 l3 rec x2 x4 = some r := h0
  unfold gX10_presentIn_45 at h
  show sW X 5 cs σ 45 [some (.ref (sad X 123)), some (.int l1), some (.int x2), some (.int l3), some (.int x4)] []
  refine s_iload hX dX10_presentIn_45 rfl ?_
  refine s_aload_n hX dX10_presentIn_47 rfl ?_
  refine s_getR (r := 124) hX fo_RX10_23_9 SH_123 rfl dX10_presentIn_48 ?_
  refine s_iload_n hX dX10_presentIn_51 rfl ?_
  obtain ⟨c1, h⟩ := gd_some h
  refine s_iald hX SH_124 c1 dX10_presentIn_52 ?_
  refine s_ic_ge (tgt := 76) hX dX10_presentIn_53 (by decide) (fun c5 => ?_) (fun c5 => ?_)
  · replace h := (if_pos c5).symm.trans h
    obtain rfl := rt1 h
    refine s_mask [true, true, true, true, false] ?_
    exact hk
  · replace h := (if_neg c5).symm.trans h
    refine s_iload_n hX dX10_presentIn_56 rfl ?_
    refine s_aload_n hX dX10_presentIn_57 rfl ?_
    refine s_bipush 8 hX dX10_presentIn_58 (by decide) ?_
    refine s_iload_n hX dX10_presentIn_60 rfl ?_
    refine s_imul hX dX10_presentIn_61 ?_
    refine s_iload hX dX10_presentIn_62 rfl ?_
    refine s_iadd hX dX10_presentIn_64 ?_
    obtain ⟨r2, hc, h⟩ := bn_some h
    refine s_callVI _ hX (cX10_usesOf_ok (sl X)  hc) SH_123 mv_RX10_245_9 (fun _ => rfl) (by decide) (Nat.le_of_ble_eq_true rfl) hcs dX10_presentIn_65 rfl ?_
    refine s_ior hX dX10_presentIn_68 ?_
    obtain ⟨v3, ev3, h⟩ := bd_some h
    refine s_topi v3 ev3 ?_
    refine s_istore_n hX dX10_presentIn_69 (by decide) ?_
    obtain ⟨v4, ev4, h⟩ := bd_some h
    refine s_iinc v4 hX dX10_presentIn_70 rfl (by rw [ev4]; rfl) (by decide) ?_
    refine s_goto (tgt := 45) hX dX10_presentIn_73 (by decide) ?_
    refine s_mask [true, true, true, true, true] ?_
    exact hrec _ _ h hk
set_option maxHeartbeats 4000000 in
theorem pX10_presentIn_8 {X : sT} {cs : Nat × Nat} (hX : sX X cX10_presentIn RX10 5 2 45) (hcs : cs.1 ≤ (sR X).cells ∧ cs.2 ≤ (sR X).slots) (σ : Mm) (l1 : Int32)  : ∀ (n : Nat) (s : Int32 × Int32) (r : Int32), qX10_presentIn_8 σ l1 n s = some r → sW X 5 cs σ 82 [none, none, some (.int r), none, none] [] → sW X 5 cs σ 8 [some (.ref (sad X 123)), some (.int l1), some (.int s.1), some (.int s.2), none] [] := by
  refine lp_ind (P := fun (s : Int32 × Int32) (r : Int32) => sW X 5 cs σ 82 [none, none, some (.int r), none, none] [] → sW X 5 cs σ 8 [some (.ref (sad X 123)), some (.int l1), some (.int s.1), some (.int s.2), none] []) ?_
  intro rec hrec s r h0 hk
  obtain ⟨x2, x3⟩ := s
  have h : gX10_presentIn_8 σ l1 rec x2 x3 = some r := h0
  unfold gX10_presentIn_8 at h
  show sW X 5 cs σ 8 [some (.ref (sad X 123)), some (.int l1), some (.int x2), some (.int x3), none] []
  refine s_iload_n hX dX10_presentIn_8 rfl ?_
  refine s_aload_n hX dX10_presentIn_9 rfl ?_
  refine s_getI hX fo_RX10_17_9 SH_123 rfl dX10_presentIn_10 ?_
  refine s_ic_ge (tgt := 82) hX dX10_presentIn_13 (by decide) (fun c9 => ?_) (fun c9 => ?_)
  · replace h := (if_pos c9).symm.trans h
    obtain rfl := rt1 h
    refine s_mask [false, false, true, false, false] ?_
    exact hk
  · replace h := (if_neg c9).symm.trans h
    refine s_iload_n hX dX10_presentIn_16 rfl ?_
    refine s_iload_n hX dX10_presentIn_17 rfl ?_
    obtain ⟨r1, hc, h⟩ := bn_some h
    refine s_callSI _ hX (cX10_has_ok (sl X)  hc) ms_RX10_255 (fun _ => rfl) (by decide) (Nat.le_of_ble_eq_true rfl) hcs dX10_presentIn_18 rfl ?_
    refine s_if_ne (tgt := 27) hX dX10_presentIn_21 (by decide) (fun c8 => ?_) (fun c8 => ?_)
    · replace h := (if_neg c8).symm.trans h
      refine s_iload_n hX dX10_presentIn_27 rfl ?_
      refine s_aload_n hX dX10_presentIn_28 rfl ?_
      refine s_getR (r := 135) hX fo_RX10_61_9 SH_123 rfl dX10_presentIn_29 ?_
      refine s_iload_n hX dX10_presentIn_32 rfl ?_
      obtain ⟨c2, h⟩ := gd_some h
      refine s_iald hX SH_135 c2 dX10_presentIn_33 ?_
      refine s_aload_n hX dX10_presentIn_34 rfl ?_
      refine s_iload_n hX dX10_presentIn_35 rfl ?_
      obtain ⟨r3, hc, h⟩ := bn_some h
      refine s_callVI _ hX (cX10_endUse_ok (sl X)  hc) SH_123 mv_RX10_242_9 (fun _ => rfl) (by decide) (Nat.le_of_ble_eq_true rfl) hcs dX10_presentIn_36 rfl ?_
      refine s_ior hX dX10_presentIn_39 ?_
      refine s_ior hX dX10_presentIn_40 ?_
      obtain ⟨v4, ev4, h⟩ := bd_some h
      refine s_topi v4 ev4 ?_
      refine s_istore_n hX dX10_presentIn_41 (by decide) ?_
      refine s_iconst 0 hX dX10_presentIn_42 (by decide) ?_
      refine s_istore hX dX10_presentIn_43 (by decide) ?_
      obtain ⟨v5, hc, h⟩ := bn_some h
      refine s_mask [true, true, true, true, true] ?_
      refine pX10_presentIn_45 hX hcs _ _ _ _ _ _ hc ?_
      obtain ⟨v6, ev6, h⟩ := bd_some h
      refine s_iinc v6 hX dX10_presentIn_76 rfl (by rw [ev6]; rfl) (by decide) ?_
      refine s_goto (tgt := 8) hX dX10_presentIn_79 (by decide) ?_
      refine s_mask [true, true, true, true, false] ?_
      exact hrec _ _ h hk
    · replace h := (if_pos c8).symm.trans h
      refine s_goto (tgt := 76) hX dX10_presentIn_24 (by decide) ?_
      obtain ⟨v7, ev7, h⟩ := bd_some h
      refine s_iinc v7 hX dX10_presentIn_76 rfl (by rw [ev7]; rfl) (by decide) ?_
      refine s_goto (tgt := 8) hX dX10_presentIn_79 (by decide) ?_
      refine s_mask [true, true, true, true, false] ?_
      exact hrec _ _ h hk
set_option maxHeartbeats 4000000 in
theorem cX10_presentIn_ok (l : Launch) {σ : Mm} {l1 : Int32} {r : Int32}  (h : fX10_presentIn σ l1 = some r) : cI l yX10_presentIn cX10_presentIn 5 .int 2 45 (fun ad => [.ref (ad 123), .int l1]) σ r σ := by
  refine c_enterI (fun ad => [some (.ref (ad 123)), some (.int l1), none, none, none]) (by decide) (fun ad => ⟨by simp [Value.category], Nat.le_of_ble_eq_true rfl⟩) (fun ad => ⟨3, rfl⟩) ?_
  intro X _ hX hret
  have hcs : ((0 : Nat), (0 : Nat)).1 ≤ (sR X).cells ∧ ((0 : Nat), (0 : Nat)).2 ≤ (sR X).slots := ⟨Nat.zero_le _, Nat.zero_le _⟩
  generalize hcs0 : ((0 : Nat), (0 : Nat)) = cs at hcs hret ⊢
  unfold fX10_presentIn at h
  show sW X 5 cs σ 0 [some (.ref (sad X 123)), some (.int l1), none, none, none] []
  refine s_aload_n hX dX10_presentIn_0 rfl ?_
  refine s_iload_n hX dX10_presentIn_1 rfl ?_
  obtain ⟨r1, hc, h⟩ := bn_some h
  refine s_callVI _ hX (cX10_targetsIn_ok (sl X)  hc) SH_123 mv_RX10_309_9 (fun _ => rfl) (by decide) (Nat.le_of_ble_eq_true rfl) hcs dX10_presentIn_2 rfl ?_
  refine s_istore_n hX dX10_presentIn_5 (by decide) ?_
  refine s_iconst 0 hX dX10_presentIn_6 (by decide) ?_
  refine s_istore_n hX dX10_presentIn_7 (by decide) ?_
  obtain ⟨v2, hc, h⟩ := bn_some h
  refine s_mask [true, true, true, true, false] ?_
  refine pX10_presentIn_8 hX hcs _ _ _ _ _ hc ?_
  refine s_iload_n hX dX10_presentIn_82 rfl ?_
  obtain rfl := rt1 h
  exact hret _ _ (nzi _) dX10_presentIn_83
def gX10_gain_106 (σ : Mm) (l1 : Int32) (l2 : Int32) (l3 : Int32) (l4 : Int32) (rec : Int32 × Int32 → Option (Int32)) (x5 : Int32) (x6 : Int32) : Option (Int32) :=
  if (σ 123 1) ≤ x6 then
  some x5
else
  (fX10_goesTo σ l4 x6).bind fun r1 =>
  if r1 = 0 then
  bd (x5 ||| 0) fun v2 =>
  bd (x6 + 1) fun v3 =>
  rec (v2, v3)
else
  gd l2 8 <|
  (fX10_has σ (σ 138 l2.toNatClampNeg) x6).bind fun r5 =>
  if r5 = 0 then
  gd x6 8 <|
  (fX10_has σ (σ 135 x6.toNatClampNeg) l1).bind fun r9 =>
  if r9 = 0 then
  bd (x5 ||| 0) fun v10 =>
  bd (x6 + 1) fun v11 =>
  rec (v10, v11)
else
  bd (x5 ||| 1) fun v12 =>
  bd (x6 + 1) fun v13 =>
  rec (v12, v13)
else
  bd (x5 ||| 0) fun v6 =>
  bd (x6 + 1) fun v7 =>
  rec (v6, v7)
def qX10_gain_106 (σ : Mm) (l1 : Int32) (l2 : Int32) (l3 : Int32) (l4 : Int32) : Nat → Int32 × Int32 → Option (Int32) := lp (fun rec s => gX10_gain_106 σ l1 l2 l3 l4 rec s.1 s.2)
def gX10_gain_27 (σ : Mm) (l1 : Int32) (l2 : Int32) (rec : Int32 × Int32 → Option (Int32)) (x3 : Int32) (x4 : Int32) : Option (Int32) :=
  if (σ 123 1) ≤ x4 then
  some x3
else
  gd l2 8 <|
  (fX10_has σ (σ 138 l2.toNatClampNeg) x4).bind fun r2 =>
  if r2 = 0 then
  gd l2 8 <|
  (fX10_goesTo σ x4 (σ 137 l2.toNatClampNeg)).bind fun r17 =>
  if r17 = 0 then
  bd (x3 - 0) fun v18 =>
  bd (x4 + 1) fun v19 =>
  rec (v18, v19)
else
  gd l2 8 <|
  gd (σ 137 l2.toNatClampNeg) 8 <|
  (fX10_has σ (σ 135 (σ 137 l2.toNatClampNeg).toNatClampNeg) l1).bind fun r22 =>
  if r22 = 0 then
  bd (x3 - 0) fun v23 =>
  bd (x4 + 1) fun v24 =>
  rec (v23, v24)
else
  gd x4 8 <|
  bd (x3 - (σ 129 x4.toNatClampNeg)) fun v26 =>
  bd (x4 + 1) fun v27 =>
  rec (v26, v27)
else
  (qX10_gain_106 σ l1 l2 x3 x4 FU (0, 0)).bind fun v3 =>
  if v3 = 0 then
  bd (x3 - 0) fun v4 =>
  bd (x4 + 1) fun v5 =>
  rec (v4, v5)
else
  gd l2 8 <|
  (fX10_targetsIn σ (σ 138 l2.toNatClampNeg)).bind fun r7 =>
  (fX10_has σ r7 l1).bind fun r8 =>
  if r8 = 0 then
  bd (x3 - 0) fun v9 =>
  bd (x4 + 1) fun v10 =>
  rec (v9, v10)
else
  gd x4 8 <|
  bd (x3 - (σ 129 x4.toNatClampNeg)) fun v12 =>
  bd (x4 + 1) fun v13 =>
  rec (v12, v13)
def qX10_gain_27 (σ : Mm) (l1 : Int32) (l2 : Int32) : Nat → Int32 × Int32 → Option (Int32) := lp (fun rec s => gX10_gain_27 σ l1 l2 rec s.1 s.2)
def fX10_gain (σ : Mm) (l1 : Int32) (l2 : Int32) : Option Int32 :=
  gd l2 8 <|
  (fX10_sumOfUses σ l1 (σ 138 l2.toNatClampNeg)).bind fun r2 =>
  gd l2 8 <|
  (fX10_sumOfTargets σ l1 (σ 138 l2.toNatClampNeg)).bind fun r4 =>
  bd (r2 + r4) fun v5 =>
  (qX10_gain_27 σ l1 l2 FU (v5, 0)).bind fun v6 =>
  some (3 * v6)
set_option maxHeartbeats 4000000 in
theorem pX10_gain_106 {X : sT} {cs : Nat × Nat} (hX : sX X cX10_gain RX10 7 2 46) (hcs : cs.1 ≤ (sR X).cells ∧ cs.2 ≤ (sR X).slots) (σ : Mm) (l1 : Int32) (l2 : Int32) (l3 : Int32) (l4 : Int32)  : ∀ (n : Nat) (s : Int32 × Int32) (r : Int32), qX10_gain_106 σ l1 l2 l3 l4 n s = some r → sW X 7 cs σ 170 [some (.ref (sad X 123)), some (.int l1), some (.int l2), some (.int l3), some (.int l4), some (.int r), none] [] → sW X 7 cs σ 106 [some (.ref (sad X 123)), some (.int l1), some (.int l2), some (.int l3), some (.int l4), some (.int s.1), some (.int s.2)] [] := by
  refine lp_ind (P := fun (s : Int32 × Int32) (r : Int32) => sW X 7 cs σ 170 [some (.ref (sad X 123)), some (.int l1), some (.int l2), some (.int l3), some (.int l4), some (.int r), none] [] → sW X 7 cs σ 106 [some (.ref (sad X 123)), some (.int l1), some (.int l2), some (.int l3), some (.int l4), some (.int s.1), some (.int s.2)] []) ?_
  intro rec hrec s r h0 hk
  obtain ⟨x5, x6⟩ := s
  have h : gX10_gain_106 σ l1 l2 l3 l4 rec x5 x6 = some r := h0
  unfold gX10_gain_106 at h
  show sW X 7 cs σ 106 [some (.ref (sad X 123)), some (.int l1), some (.int l2), some (.int l3), some (.int l4), some (.int x5), some (.int x6)] []
  refine s_iload hX dX10_gain_106 rfl ?_
  refine s_aload_n hX dX10_gain_108 rfl ?_
  refine s_getI hX fo_RX10_17_9 SH_123 rfl dX10_gain_109 ?_
  refine s_ic_ge (tgt := 170) hX dX10_gain_112 (by decide) (fun c17 => ?_) (fun c17 => ?_)
  · replace h := (if_pos c17).symm.trans h
    obtain rfl := rt1 h
    refine s_mask [true, true, true, true, true, true, false] ?_
    exact hk
  · replace h := (if_neg c17).symm.trans h
    refine s_iload hX dX10_gain_115 rfl ?_
    refine s_aload_n hX dX10_gain_117 rfl ?_
    refine s_iload hX dX10_gain_118 rfl ?_
    refine s_iload hX dX10_gain_120 rfl ?_
    obtain ⟨r1, hc, h⟩ := bn_some h
    refine s_callVI _ hX (cX10_goesTo_ok (sl X)  hc) SH_123 mv_RX10_235_9 (fun _ => rfl) (by decide) (Nat.le_of_ble_eq_true rfl) hcs dX10_gain_122 rfl ?_
    refine s_if_eq (tgt := 160) hX dX10_gain_125 (by decide) (fun c16 => ?_) (fun c16 => ?_)
    · replace h := (if_pos c16).symm.trans h
      refine s_iconst 0 hX dX10_gain_160 (by decide) ?_
      refine s_ior hX dX10_gain_161 ?_
      obtain ⟨v2, ev2, h⟩ := bd_some h
      refine s_topi v2 ev2 ?_
      refine s_istore hX dX10_gain_162 (by decide) ?_
      obtain ⟨v3, ev3, h⟩ := bd_some h
      refine s_iinc v3 hX dX10_gain_164 rfl (by rw [ev3]; rfl) (by decide) ?_
      refine s_goto (tgt := 106) hX dX10_gain_167 (by decide) ?_
      refine s_mask [true, true, true, true, true, true, true] ?_
      exact hrec _ _ h hk
    · replace h := (if_neg c16).symm.trans h
      refine s_aload_n hX dX10_gain_128 rfl ?_
      refine s_getR (r := 138) hX fo_RX10_73_9 SH_123 rfl dX10_gain_129 ?_
      refine s_iload_n hX dX10_gain_132 rfl ?_
      obtain ⟨c4, h⟩ := gd_some h
      refine s_iald hX SH_138 c4 dX10_gain_133 ?_
      refine s_iload hX dX10_gain_134 rfl ?_
      obtain ⟨r5, hc, h⟩ := bn_some h
      refine s_callSI _ hX (cX10_has_ok (sl X)  hc) ms_RX10_255 (fun _ => rfl) (by decide) (Nat.le_of_ble_eq_true rfl) hcs dX10_gain_136 rfl ?_
      refine s_if_ne (tgt := 160) hX dX10_gain_139 (by decide) (fun c15 => ?_) (fun c15 => ?_)
      · replace h := (if_neg c15).symm.trans h
        refine s_iconst 0 hX dX10_gain_160 (by decide) ?_
        refine s_ior hX dX10_gain_161 ?_
        obtain ⟨v6, ev6, h⟩ := bd_some h
        refine s_topi v6 ev6 ?_
        refine s_istore hX dX10_gain_162 (by decide) ?_
        obtain ⟨v7, ev7, h⟩ := bd_some h
        refine s_iinc v7 hX dX10_gain_164 rfl (by rw [ev7]; rfl) (by decide) ?_
        refine s_goto (tgt := 106) hX dX10_gain_167 (by decide) ?_
        refine s_mask [true, true, true, true, true, true, true] ?_
        exact hrec _ _ h hk
      · replace h := (if_pos c15).symm.trans h
        refine s_aload_n hX dX10_gain_142 rfl ?_
        refine s_getR (r := 135) hX fo_RX10_61_9 SH_123 rfl dX10_gain_143 ?_
        refine s_iload hX dX10_gain_146 rfl ?_
        obtain ⟨c8, h⟩ := gd_some h
        refine s_iald hX SH_135 c8 dX10_gain_148 ?_
        refine s_iload_n hX dX10_gain_149 rfl ?_
        obtain ⟨r9, hc, h⟩ := bn_some h
        refine s_callSI _ hX (cX10_has_ok (sl X)  hc) ms_RX10_255 (fun _ => rfl) (by decide) (Nat.le_of_ble_eq_true rfl) hcs dX10_gain_150 rfl ?_
        refine s_if_eq (tgt := 160) hX dX10_gain_153 (by decide) (fun c14 => ?_) (fun c14 => ?_)
        · replace h := (if_pos c14).symm.trans h
          refine s_iconst 0 hX dX10_gain_160 (by decide) ?_
          refine s_ior hX dX10_gain_161 ?_
          obtain ⟨v10, ev10, h⟩ := bd_some h
          refine s_topi v10 ev10 ?_
          refine s_istore hX dX10_gain_162 (by decide) ?_
          obtain ⟨v11, ev11, h⟩ := bd_some h
          refine s_iinc v11 hX dX10_gain_164 rfl (by rw [ev11]; rfl) (by decide) ?_
          refine s_goto (tgt := 106) hX dX10_gain_167 (by decide) ?_
          refine s_mask [true, true, true, true, true, true, true] ?_
          exact hrec _ _ h hk
        · replace h := (if_neg c14).symm.trans h
          refine s_iconst 1 hX dX10_gain_156 (by decide) ?_
          refine s_goto (tgt := 161) hX dX10_gain_157 (by decide) ?_
          refine s_ior hX dX10_gain_161 ?_
          obtain ⟨v12, ev12, h⟩ := bd_some h
          refine s_topi v12 ev12 ?_
          refine s_istore hX dX10_gain_162 (by decide) ?_
          obtain ⟨v13, ev13, h⟩ := bd_some h
          refine s_iinc v13 hX dX10_gain_164 rfl (by rw [ev13]; rfl) (by decide) ?_
          refine s_goto (tgt := 106) hX dX10_gain_167 (by decide) ?_
          refine s_mask [true, true, true, true, true, true, true] ?_
          exact hrec _ _ h hk
set_option maxHeartbeats 4000000 in
theorem pX10_gain_27 {X : sT} {cs : Nat × Nat} (hX : sX X cX10_gain RX10 7 2 46) (hcs : cs.1 ≤ (sR X).cells ∧ cs.2 ≤ (sR X).slots) (σ : Mm) (l1 : Int32) (l2 : Int32)  : ∀ (n : Nat) (s : Int32 × Int32) (r : Int32), qX10_gain_27 σ l1 l2 n s = some r → sW X 7 cs σ 212 [none, none, none, some (.int r), none, none, none] [] → sW X 7 cs σ 27 [some (.ref (sad X 123)), some (.int l1), some (.int l2), some (.int s.1), some (.int s.2), none, none] [] := by
  refine lp_ind (P := fun (s : Int32 × Int32) (r : Int32) => sW X 7 cs σ 212 [none, none, none, some (.int r), none, none, none] [] → sW X 7 cs σ 27 [some (.ref (sad X 123)), some (.int l1), some (.int l2), some (.int s.1), some (.int s.2), none, none] []) ?_
  intro rec hrec s r h0 hk
  obtain ⟨x3, x4⟩ := s
  have h : gX10_gain_27 σ l1 l2 rec x3 x4 = some r := h0
  unfold gX10_gain_27 at h
  show sW X 7 cs σ 27 [some (.ref (sad X 123)), some (.int l1), some (.int l2), some (.int x3), some (.int x4), none, none] []
  refine s_iload hX dX10_gain_27 rfl ?_
  refine s_aload_n hX dX10_gain_29 rfl ?_
  refine s_getI hX fo_RX10_17_9 SH_123 rfl dX10_gain_30 ?_
  refine s_ic_ge (tgt := 212) hX dX10_gain_33 (by decide) (fun c31 => ?_) (fun c31 => ?_)
  · replace h := (if_pos c31).symm.trans h
    obtain rfl := rt1 h
    refine s_mask [false, false, false, true, false, false, false] ?_
    exact hk
  · replace h := (if_neg c31).symm.trans h
    refine s_aload_n hX dX10_gain_36 rfl ?_
    refine s_getR (r := 138) hX fo_RX10_73_9 SH_123 rfl dX10_gain_37 ?_
    refine s_iload_n hX dX10_gain_40 rfl ?_
    obtain ⟨c1, h⟩ := gd_some h
    refine s_iald hX SH_138 c1 dX10_gain_41 ?_
    refine s_iload hX dX10_gain_42 rfl ?_
    obtain ⟨r2, hc, h⟩ := bn_some h
    refine s_callSI _ hX (cX10_has_ok (sl X)  hc) ms_RX10_255 (fun _ => rfl) (by decide) (Nat.le_of_ble_eq_true rfl) hcs dX10_gain_44 rfl ?_
    refine s_if_ne (tgt := 100) hX dX10_gain_47 (by decide) (fun c30 => ?_) (fun c30 => ?_)
    · replace h := (if_neg c30).symm.trans h
      refine s_iconst 0 hX dX10_gain_100 (by decide) ?_
      refine s_istore hX dX10_gain_101 (by decide) ?_
      refine s_iconst 0 hX dX10_gain_103 (by decide) ?_
      refine s_istore hX dX10_gain_104 (by decide) ?_
      obtain ⟨v3, hc, h⟩ := bn_some h
      refine s_mask [true, true, true, true, true, true, true] ?_
      refine pX10_gain_106 hX hcs _ _ _ _ _ _ _ _ hc ?_
      refine s_iload_n hX dX10_gain_170 rfl ?_
      refine s_iload hX dX10_gain_171 rfl ?_
      refine s_if_eq (tgt := 203) hX dX10_gain_173 (by decide) (fun c15 => ?_) (fun c15 => ?_)
      · replace h := (if_pos c15).symm.trans h
        refine s_iconst 0 hX dX10_gain_203 (by decide) ?_
        refine s_isub hX dX10_gain_204 ?_
        obtain ⟨v4, ev4, h⟩ := bd_some h
        refine s_topi v4 ev4 ?_
        refine s_istore_n hX dX10_gain_205 (by decide) ?_
        obtain ⟨v5, ev5, h⟩ := bd_some h
        refine s_iinc v5 hX dX10_gain_206 rfl (by rw [ev5]; rfl) (by decide) ?_
        refine s_goto (tgt := 27) hX dX10_gain_209 (by decide) ?_
        refine s_mask [true, true, true, true, true, false, false] ?_
        exact hrec _ _ h hk
      · replace h := (if_neg c15).symm.trans h
        refine s_aload_n hX dX10_gain_176 rfl ?_
        refine s_aload_n hX dX10_gain_177 rfl ?_
        refine s_getR (r := 138) hX fo_RX10_73_9 SH_123 rfl dX10_gain_178 ?_
        refine s_iload_n hX dX10_gain_181 rfl ?_
        obtain ⟨c6, h⟩ := gd_some h
        refine s_iald hX SH_138 c6 dX10_gain_182 ?_
        obtain ⟨r7, hc, h⟩ := bn_some h
        refine s_callVI _ hX (cX10_targetsIn_ok (sl X)  hc) SH_123 mv_RX10_309_9 (fun _ => rfl) (by decide) (Nat.le_of_ble_eq_true rfl) hcs dX10_gain_183 rfl ?_
        refine s_iload_n hX dX10_gain_186 rfl ?_
        obtain ⟨r8, hc, h⟩ := bn_some h
        refine s_callSI _ hX (cX10_has_ok (sl X)  hc) ms_RX10_255 (fun _ => rfl) (by decide) (Nat.le_of_ble_eq_true rfl) hcs dX10_gain_187 rfl ?_
        refine s_if_eq (tgt := 203) hX dX10_gain_190 (by decide) (fun c14 => ?_) (fun c14 => ?_)
        · replace h := (if_pos c14).symm.trans h
          refine s_iconst 0 hX dX10_gain_203 (by decide) ?_
          refine s_isub hX dX10_gain_204 ?_
          obtain ⟨v9, ev9, h⟩ := bd_some h
          refine s_topi v9 ev9 ?_
          refine s_istore_n hX dX10_gain_205 (by decide) ?_
          obtain ⟨v10, ev10, h⟩ := bd_some h
          refine s_iinc v10 hX dX10_gain_206 rfl (by rw [ev10]; rfl) (by decide) ?_
          refine s_goto (tgt := 27) hX dX10_gain_209 (by decide) ?_
          refine s_mask [true, true, true, true, true, false, false] ?_
          exact hrec _ _ h hk
        · replace h := (if_neg c14).symm.trans h
          refine s_aload_n hX dX10_gain_193 rfl ?_
          refine s_getR (r := 129) hX fo_RX10_39_9 SH_123 rfl dX10_gain_194 ?_
          refine s_iload hX dX10_gain_197 rfl ?_
          obtain ⟨c11, h⟩ := gd_some h
          refine s_iald hX SH_129 c11 dX10_gain_199 ?_
          refine s_goto (tgt := 204) hX dX10_gain_200 (by decide) ?_
          refine s_isub hX dX10_gain_204 ?_
          obtain ⟨v12, ev12, h⟩ := bd_some h
          refine s_topi v12 ev12 ?_
          refine s_istore_n hX dX10_gain_205 (by decide) ?_
          obtain ⟨v13, ev13, h⟩ := bd_some h
          refine s_iinc v13 hX dX10_gain_206 rfl (by rw [ev13]; rfl) (by decide) ?_
          refine s_goto (tgt := 27) hX dX10_gain_209 (by decide) ?_
          refine s_mask [true, true, true, true, true, false, false] ?_
          exact hrec _ _ h hk
    · replace h := (if_pos c30).symm.trans h
      refine s_iload_n hX dX10_gain_50 rfl ?_
      refine s_aload_n hX dX10_gain_51 rfl ?_
      refine s_iload hX dX10_gain_52 rfl ?_
      refine s_aload_n hX dX10_gain_54 rfl ?_
      refine s_getR (r := 137) hX fo_RX10_70_9 SH_123 rfl dX10_gain_55 ?_
      refine s_iload_n hX dX10_gain_58 rfl ?_
      obtain ⟨c16, h⟩ := gd_some h
      refine s_iald hX SH_137 c16 dX10_gain_59 ?_
      obtain ⟨r17, hc, h⟩ := bn_some h
      refine s_callVI _ hX (cX10_goesTo_ok (sl X)  hc) SH_123 mv_RX10_235_9 (fun _ => rfl) (by decide) (Nat.le_of_ble_eq_true rfl) hcs dX10_gain_60 rfl ?_
      refine s_if_eq (tgt := 94) hX dX10_gain_63 (by decide) (fun c29 => ?_) (fun c29 => ?_)
      · replace h := (if_pos c29).symm.trans h
        refine s_iconst 0 hX dX10_gain_94 (by decide) ?_
        refine s_isub hX dX10_gain_95 ?_
        obtain ⟨v18, ev18, h⟩ := bd_some h
        refine s_topi v18 ev18 ?_
        refine s_istore_n hX dX10_gain_96 (by decide) ?_
        refine s_goto (tgt := 206) hX dX10_gain_97 (by decide) ?_
        obtain ⟨v19, ev19, h⟩ := bd_some h
        refine s_iinc v19 hX dX10_gain_206 rfl (by rw [ev19]; rfl) (by decide) ?_
        refine s_goto (tgt := 27) hX dX10_gain_209 (by decide) ?_
        refine s_mask [true, true, true, true, true, false, false] ?_
        exact hrec _ _ h hk
      · replace h := (if_neg c29).symm.trans h
        refine s_aload_n hX dX10_gain_66 rfl ?_
        refine s_getR (r := 135) hX fo_RX10_61_9 SH_123 rfl dX10_gain_67 ?_
        refine s_aload_n hX dX10_gain_70 rfl ?_
        refine s_getR (r := 137) hX fo_RX10_70_9 SH_123 rfl dX10_gain_71 ?_
        refine s_iload_n hX dX10_gain_74 rfl ?_
        obtain ⟨c20, h⟩ := gd_some h
        refine s_iald hX SH_137 c20 dX10_gain_75 ?_
        obtain ⟨c21, h⟩ := gd_some h
        refine s_iald hX SH_135 c21 dX10_gain_76 ?_
        refine s_iload_n hX dX10_gain_77 rfl ?_
        obtain ⟨r22, hc, h⟩ := bn_some h
        refine s_callSI _ hX (cX10_has_ok (sl X)  hc) ms_RX10_255 (fun _ => rfl) (by decide) (Nat.le_of_ble_eq_true rfl) hcs dX10_gain_78 rfl ?_
        refine s_if_eq (tgt := 94) hX dX10_gain_81 (by decide) (fun c28 => ?_) (fun c28 => ?_)
        · replace h := (if_pos c28).symm.trans h
          refine s_iconst 0 hX dX10_gain_94 (by decide) ?_
          refine s_isub hX dX10_gain_95 ?_
          obtain ⟨v23, ev23, h⟩ := bd_some h
          refine s_topi v23 ev23 ?_
          refine s_istore_n hX dX10_gain_96 (by decide) ?_
          refine s_goto (tgt := 206) hX dX10_gain_97 (by decide) ?_
          obtain ⟨v24, ev24, h⟩ := bd_some h
          refine s_iinc v24 hX dX10_gain_206 rfl (by rw [ev24]; rfl) (by decide) ?_
          refine s_goto (tgt := 27) hX dX10_gain_209 (by decide) ?_
          refine s_mask [true, true, true, true, true, false, false] ?_
          exact hrec _ _ h hk
        · replace h := (if_neg c28).symm.trans h
          refine s_aload_n hX dX10_gain_84 rfl ?_
          refine s_getR (r := 129) hX fo_RX10_39_9 SH_123 rfl dX10_gain_85 ?_
          refine s_iload hX dX10_gain_88 rfl ?_
          obtain ⟨c25, h⟩ := gd_some h
          refine s_iald hX SH_129 c25 dX10_gain_90 ?_
          refine s_goto (tgt := 95) hX dX10_gain_91 (by decide) ?_
          refine s_isub hX dX10_gain_95 ?_
          obtain ⟨v26, ev26, h⟩ := bd_some h
          refine s_topi v26 ev26 ?_
          refine s_istore_n hX dX10_gain_96 (by decide) ?_
          refine s_goto (tgt := 206) hX dX10_gain_97 (by decide) ?_
          obtain ⟨v27, ev27, h⟩ := bd_some h
          refine s_iinc v27 hX dX10_gain_206 rfl (by rw [ev27]; rfl) (by decide) ?_
          refine s_goto (tgt := 27) hX dX10_gain_209 (by decide) ?_
          refine s_mask [true, true, true, true, true, false, false] ?_
          exact hrec _ _ h hk
set_option maxHeartbeats 4000000 in
theorem cX10_gain_ok (l : Launch) {σ : Mm} {l1 : Int32} {l2 : Int32} {r : Int32}  (h : fX10_gain σ l1 l2 = some r) : cI l yX10_gain cX10_gain 7 .int 2 46 (fun ad => [.ref (ad 123), .int l1, .int l2]) σ r σ := by
  refine c_enterI (fun ad => [some (.ref (ad 123)), some (.int l1), some (.int l2), none, none, none, none]) (by decide) (fun ad => ⟨by simp [Value.category], Nat.le_of_ble_eq_true rfl⟩) (fun ad => ⟨4, rfl⟩) ?_
  intro X _ hX hret
  have hcs : ((0 : Nat), (0 : Nat)).1 ≤ (sR X).cells ∧ ((0 : Nat), (0 : Nat)).2 ≤ (sR X).slots := ⟨Nat.zero_le _, Nat.zero_le _⟩
  generalize hcs0 : ((0 : Nat), (0 : Nat)) = cs at hcs hret ⊢
  unfold fX10_gain at h
  show sW X 7 cs σ 0 [some (.ref (sad X 123)), some (.int l1), some (.int l2), none, none, none, none] []
  refine s_aload_n hX dX10_gain_0 rfl ?_
  refine s_iload_n hX dX10_gain_1 rfl ?_
  refine s_aload_n hX dX10_gain_2 rfl ?_
  refine s_getR (r := 138) hX fo_RX10_73_9 SH_123 rfl dX10_gain_3 ?_
  refine s_iload_n hX dX10_gain_6 rfl ?_
  obtain ⟨c1, h⟩ := gd_some h
  refine s_iald hX SH_138 c1 dX10_gain_7 ?_
  obtain ⟨r2, hc, h⟩ := bn_some h
  refine s_callVI _ hX (cX10_sumOfUses_ok (sl X)  hc) SH_123 mv_RX10_286_9 (fun _ => rfl) (by decide) (Nat.le_of_ble_eq_true rfl) hcs dX10_gain_8 rfl ?_
  refine s_aload_n hX dX10_gain_11 rfl ?_
  refine s_iload_n hX dX10_gain_12 rfl ?_
  refine s_aload_n hX dX10_gain_13 rfl ?_
  refine s_getR (r := 138) hX fo_RX10_73_9 SH_123 rfl dX10_gain_14 ?_
  refine s_iload_n hX dX10_gain_17 rfl ?_
  obtain ⟨c3, h⟩ := gd_some h
  refine s_iald hX SH_138 c3 dX10_gain_18 ?_
  obtain ⟨r4, hc, h⟩ := bn_some h
  refine s_callVI _ hX (cX10_sumOfTargets_ok (sl X)  hc) SH_123 mv_RX10_289_9 (fun _ => rfl) (by decide) (Nat.le_of_ble_eq_true rfl) hcs dX10_gain_19 rfl ?_
  refine s_iadd hX dX10_gain_22 ?_
  obtain ⟨v5, ev5, h⟩ := bd_some h
  refine s_topi v5 ev5 ?_
  refine s_istore_n hX dX10_gain_23 (by decide) ?_
  refine s_iconst 0 hX dX10_gain_24 (by decide) ?_
  refine s_istore hX dX10_gain_25 (by decide) ?_
  obtain ⟨v6, hc, h⟩ := bn_some h
  refine s_mask [true, true, true, true, true, false, false] ?_
  refine pX10_gain_27 hX hcs _ _ _ _ _ _ hc ?_
  refine s_iconst 3 hX dX10_gain_212 (by decide) ?_
  refine s_iload_n hX dX10_gain_213 rfl ?_
  refine s_imul hX dX10_gain_214 ?_
  obtain rfl := rt1 h
  exact hret _ _ (nzi _) dX10_gain_215
