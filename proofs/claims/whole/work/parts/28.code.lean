def fX0_finish (σ : Mm) (k : Nat) (l1 : Int32) (l2 : Int32) (l3 : Int32) (l4 : Int32) : Option Mm :=
  bd (upm σ k (upd (σ k) 5 l1)) fun σ1 =>
  jn (fun (v2 : Int32) => bd (upm σ1 k (upd (σ1 k) 6 v2)) fun σ4 =>
  jn (fun (v5 : Int32) => bd (upm σ4 k (upd (σ4 k) 7 v5)) fun σ7 =>
  if l1 = 1 then
  bd (upm σ7 k (upd (σ7 k) 8 l4)) fun σ9 =>
  some σ9
else
  bd (upm σ7 k (upd (σ7 k) 8 (-1))) fun σ8 =>
  some σ8) fun j6 =>
  if l1 = 2 then
  j6 (-1)
else
  j6 l3) fun j3 =>
  if l1 = 0 then
  j3 (-1)
else
  j3 l2
set_option maxHeartbeats 4000000 in
theorem cX0_finish_ok (l : Launch) {σ : Mm} {k : Nat} {l1 : Int32} {l2 : Int32} {l3 : Int32} {l4 : Int32} {σ' : Mm} (hB : isB k) (h : fX0_finish σ k l1 l2 l3 l4 = some σ') : cV l yX0_finish cX0_finish 5 0 0 (fun ad => [.ref (ad k), .int l1, .int l2, .int l3, .int l4]) σ σ' := by
  refine c_enterV (fun ad => [some (.ref (ad k)), some (.int l1), some (.int l2), some (.int l3), some (.int l4)]) (by decide) (fun ad => ⟨by simp [Value.category], Nat.le_of_ble_eq_true rfl⟩) (fun ad => ⟨0, rfl⟩) ?_
  intro X _ hX hret
  have hcs : ((0 : Nat), (0 : Nat)).1 ≤ (sR X).cells ∧ ((0 : Nat), (0 : Nat)).2 ≤ (sR X).slots := ⟨Nat.zero_le _, Nat.zero_le _⟩
  generalize hcs0 : ((0 : Nat), (0 : Nat)) = cs at hcs hret ⊢
  unfold fX0_finish at h
  show sW X 5 cs σ 0 [some (.ref (sad X k)), some (.int l1), some (.int l2), some (.int l3), some (.int l4)] []
  refine s_aload_n hX dX0_finish_0 rfl ?_
  refine s_iload_n hX dX0_finish_1 rfl ?_
  obtain ⟨σ1, eσ1, h⟩ := bd_some h
  refine s_putI hX fo_RX0_38_0 (isB_0 hB) rfl dX0_finish_2 ?_
  refine s_mem σ1 eσ1 ?_
  refine s_aload_n hX dX0_finish_5 rfl ?_
  refine s_iload_n hX dX0_finish_6 rfl ?_
  refine jn_use (fun j => ∀ (v2 : Int32), j v2 = some σ' → sW X 5 cs σ1 15 [some (.ref (sad X k)), some (.int l1), none, some (.int l3), some (.int l4)] [.int v2, .ref (sad X k)]) h ?_ ?_
  · intro v2 h
    obtain ⟨σ4, eσ4, h⟩ := bd_some h
    refine s_putI hX fo_RX0_41_0 (isB_0 hB) rfl dX0_finish_15 ?_
    refine s_mem σ4 eσ4 ?_
    refine s_aload_n hX dX0_finish_18 rfl ?_
    refine s_iload_n hX dX0_finish_19 rfl ?_
    refine s_iconst 2 hX dX0_finish_20 (by decide) ?_
    refine jn_use (fun j => ∀ (v5 : Int32), j v5 = some σ' → sW X 5 cs σ4 29 [some (.ref (sad X k)), some (.int l1), none, none, some (.int l4)] [.int v5, .ref (sad X k)]) h ?_ ?_
    · intro v5 h
      obtain ⟨σ7, eσ7, h⟩ := bd_some h
      refine s_putI hX fo_RX0_44_0 (isB_0 hB) rfl dX0_finish_29 ?_
      refine s_mem σ7 eσ7 ?_
      refine s_aload_n hX dX0_finish_32 rfl ?_
      refine s_iload_n hX dX0_finish_33 rfl ?_
      refine s_iconst 1 hX dX0_finish_34 (by decide) ?_
      refine s_ic_ne (tgt := 43) hX dX0_finish_35 (by decide) (fun c10 => ?_) (fun c10 => ?_)
      · replace h := (if_neg c10).symm.trans h
        refine s_iconst (-1) hX dX0_finish_43 (by decide) ?_
        obtain ⟨σ8, eσ8, h⟩ := bd_some h
        refine s_putI hX fo_RX0_47_0 (isB_0 hB) rfl dX0_finish_44 ?_
        refine s_mem σ8 eσ8 ?_
        obtain rfl := rt1 h
        exact hret _ _ dX0_finish_47
      · replace h := (if_pos c10).symm.trans h
        refine s_iload hX dX0_finish_38 rfl ?_
        refine s_goto (tgt := 44) hX dX0_finish_40 (by decide) ?_
        obtain ⟨σ9, eσ9, h⟩ := bd_some h
        refine s_putI hX fo_RX0_47_0 (isB_0 hB) rfl dX0_finish_44 ?_
        refine s_mem σ9 eσ9 ?_
        obtain rfl := rt1 h
        exact hret _ _ dX0_finish_47
    · intro j6 hj6 h
      refine s_ic_ne (tgt := 28) hX dX0_finish_21 (by decide) (fun c11 => ?_) (fun c11 => ?_)
      · replace h := (if_neg c11).symm.trans h
        refine s_iload_n hX dX0_finish_28 rfl ?_
        refine s_mask [true, true, false, false, true] ?_
        exact hj6 _ h
      · replace h := (if_pos c11).symm.trans h
        refine s_iconst (-1) hX dX0_finish_24 (by decide) ?_
        refine s_goto (tgt := 29) hX dX0_finish_25 (by decide) ?_
        refine s_mask [true, true, false, false, true] ?_
        exact hj6 _ h
  · intro j3 hj3 h
    refine s_if_ne (tgt := 14) hX dX0_finish_7 (by decide) (fun c12 => ?_) (fun c12 => ?_)
    · replace h := (if_neg c12).symm.trans h
      refine s_iload_n hX dX0_finish_14 rfl ?_
      refine s_mask [true, true, false, true, true] ?_
      exact hj3 _ h
    · replace h := (if_pos c12).symm.trans h
      refine s_iconst (-1) hX dX0_finish_10 (by decide) ?_
      refine s_goto (tgt := 15) hX dX0_finish_11 (by decide) ?_
      refine s_mask [true, true, false, true, true] ?_
      exact hj3 _ h
def fX0_begin (σ : Mm) (k : Nat) : Option Mm :=
  bd (upm σ k (upd (σ k) 4 0)) fun σ1 =>
  (fX0_finish σ1 k 2 0 (-1) (-1)).bind fun σ2 =>
  bd (upm σ2 k (upd (σ2 k) 9 1)) fun σ3 =>
  some σ3
set_option maxHeartbeats 4000000 in
theorem cX0_begin_ok (l : Launch) {σ : Mm} {k : Nat} {σ' : Mm} (hB : isB k) (h : fX0_begin σ k = some σ') : cV l yX0_begin cX0_begin 1 1 24 (fun ad => [.ref (ad k)]) σ σ' := by
  refine c_enterV (fun ad => [some (.ref (ad k))]) (by decide) (fun ad => ⟨by simp [Value.category], Nat.le_of_ble_eq_true rfl⟩) (fun ad => ⟨0, rfl⟩) ?_
  intro X _ hX hret
  have hcs : ((0 : Nat), (0 : Nat)).1 ≤ (sR X).cells ∧ ((0 : Nat), (0 : Nat)).2 ≤ (sR X).slots := ⟨Nat.zero_le _, Nat.zero_le _⟩
  generalize hcs0 : ((0 : Nat), (0 : Nat)) = cs at hcs hret ⊢
  unfold fX0_begin at h
  show sW X 1 cs σ 0 [some (.ref (sad X k))] []
  refine s_aload_n hX dX0_begin_0 rfl ?_
  refine s_iconst 0 hX dX0_begin_1 (by decide) ?_
  obtain ⟨σ1, eσ1, h⟩ := bd_some h
  refine s_putI hX fo_RX0_27_0 (isB_0 hB) rfl dX0_begin_2 ?_
  refine s_mem σ1 eσ1 ?_
  refine s_aload_n hX dX0_begin_5 rfl ?_
  refine s_iconst 2 hX dX0_begin_6 (by decide) ?_
  refine s_iconst 0 hX dX0_begin_7 (by decide) ?_
  refine s_iconst (-1) hX dX0_begin_8 (by decide) ?_
  refine s_iconst (-1) hX dX0_begin_9 (by decide) ?_
  obtain ⟨σ2, hc, h⟩ := bn_some h
  refine s_callVV _ hX (cX0_finish_ok (sl X) hB hc) (isB_0 hB) mv_RX0_31_0 (fun _ => rfl) (by decide) (Nat.le_of_ble_eq_true rfl) hcs dX0_begin_10 rfl ?_
  refine s_aload_n hX dX0_begin_13 rfl ?_
  refine s_iconst 1 hX dX0_begin_14 (by decide) ?_
  obtain ⟨σ3, eσ3, h⟩ := bd_some h
  refine s_putI hX fo_RX0_35_0 (isB_0 hB) rfl dX0_begin_15 ?_
  refine s_mem σ3 eσ3 ?_
  obtain rfl := rt1 h
  exact hret _ _ dX0_begin_18
def gX7_begin_p_2 (l1 : Int32) (rec : Mm × Int32 → Option (Mm)) (σ : Mm) (x2 : Int32) : Option (Mm) :=
  if 8 ≤ x2 then
  some σ
else
  gd x2 8 <|
  bd (4 + 5 * x2.toNatClampNeg) fun k2 =>
  (fX0_begin σ k2).bind fun σ3 =>
  bd (x2 + 1) fun v4 =>
  rec (σ3, v4)
def qX7_begin_p_2 (l1 : Int32) : Nat → Mm × Int32 → Option (Mm) := lp (fun rec s => gX7_begin_p_2 l1 rec s.1 s.2)
def fX7_begin_p (σ : Mm) (l1 : Int32) : Option Mm :=
  (qX7_begin_p_2 l1 FU (σ, 0)).bind fun σ1 =>
  (fJ7_fill_53178 σ1 3 12 0).bind fun σ2 =>
  bd (upm σ2 1 (upd (σ2 1) 2 l1)) fun σ3 =>
  some σ3
set_option maxHeartbeats 4000000 in
theorem pX7_begin_p_2 {X : sT} {cs : Nat × Nat} (hX : sX X cX7_begin RX7 3 2 44) (hcs : cs.1 ≤ (sR X).cells ∧ cs.2 ≤ (sR X).slots) (l1 : Int32)  : ∀ (n : Nat) (s : Mm × Int32) (r : Mm), qX7_begin_p_2 l1 n s = some r → sW X 3 cs r 23 [some (.ref (sad X 1)), some (.int l1), none] [] → sW X 3 cs s.1 2 [some (.ref (sad X 1)), some (.int l1), some (.int s.2)] [] := by
  refine lp_ind (P := fun (s : Mm × Int32) (r : Mm) => sW X 3 cs r 23 [some (.ref (sad X 1)), some (.int l1), none] [] → sW X 3 cs s.1 2 [some (.ref (sad X 1)), some (.int l1), some (.int s.2)] []) ?_
  intro rec hrec s r h0 hk
  obtain ⟨σ, x2⟩ := s
  have h : gX7_begin_p_2 l1 rec σ x2 = some r := h0
  unfold gX7_begin_p_2 at h
  show sW X 3 cs σ 2 [some (.ref (sad X 1)), some (.int l1), some (.int x2)] []
  refine s_iload_n hX dX7_begin_2 rfl ?_
  refine s_bipush 8 hX dX7_begin_3 (by decide) ?_
  refine s_ic_ge (tgt := 23) hX dX7_begin_5 (by decide) (fun c5 => ?_) (fun c5 => ?_)
  · replace h := (if_pos c5).symm.trans h
    obtain rfl := rt1 h
    refine s_mask [true, true, false] ?_
    exact hk
  · replace h := (if_neg c5).symm.trans h
    refine s_aload_n hX dX7_begin_8 rfl ?_
    refine s_getR (r := 2) hX fo_RX7_11_6 SH_1 rfl dX7_begin_9 ?_
    refine s_iload_n hX dX7_begin_12 rfl ?_
    obtain ⟨c1, h⟩ := gd_some h
    obtain ⟨k2, ek2, h⟩ := bd_some h
    have Bk2 : isB k2 := Or.inl ⟨_, vp_lt c1, ek2⟩
    refine s_aaldP hX c1 dX7_begin_13 ?_
    refine s_topr k2 ek2 ?_
    obtain ⟨σ3, hc, h⟩ := bn_some h
    refine s_callVV _ hX (cX0_begin_ok (sl X) Bk2 hc) (isB_0 Bk2) mv_RX7_26_0 (fun _ => rfl) (by decide) (Nat.le_of_ble_eq_true rfl) hcs dX7_begin_14 rfl ?_
    obtain ⟨v4, ev4, h⟩ := bd_some h
    refine s_iinc v4 hX dX7_begin_17 rfl (by rw [ev4]; rfl) (by decide) ?_
    refine s_goto (tgt := 2) hX dX7_begin_20 (by decide) ?_
    refine s_mask [true, true, true] ?_
    exact hrec _ _ h hk
set_option maxHeartbeats 4000000 in
theorem cX7_begin_p_ok (l : Launch) {σ : Mm} {l1 : Int32} {σ' : Mm}  (h : fX7_begin_p σ l1 = some σ') : cV l yX7_begin cX7_begin 3 2 44 (fun ad => [.ref (ad 1), .int l1]) σ σ' := by
  refine c_enterV (fun ad => [some (.ref (ad 1)), some (.int l1), none]) (by decide) (fun ad => ⟨by simp [Value.category], Nat.le_of_ble_eq_true rfl⟩) (fun ad => ⟨1, rfl⟩) ?_
  intro X _ hX hret
  have hcs : ((0 : Nat), (0 : Nat)).1 ≤ (sR X).cells ∧ ((0 : Nat), (0 : Nat)).2 ≤ (sR X).slots := ⟨Nat.zero_le _, Nat.zero_le _⟩
  generalize hcs0 : ((0 : Nat), (0 : Nat)) = cs at hcs hret ⊢
  unfold fX7_begin_p at h
  show sW X 3 cs σ 0 [some (.ref (sad X 1)), some (.int l1), none] []
  refine s_iconst 0 hX dX7_begin_0 (by decide) ?_
  refine s_istore_n hX dX7_begin_1 (by decide) ?_
  obtain ⟨σ1, hc, h⟩ := bn_some h
  refine s_mask [true, true, true] ?_
  refine pX7_begin_p_2 hX hcs _ _ _ _ hc ?_
  refine s_aload_n hX dX7_begin_23 rfl ?_
  refine s_getR (r := 3) hX fo_RX7_17_6 SH_1 rfl dX7_begin_24 ?_
  refine s_iconst 0 hX dX7_begin_27 (by decide) ?_
  obtain ⟨σ2, hc, h⟩ := bn_some h
  refine s_callSV _ hX (cJ7_fill_53178_ok (sl X) SH_3 hc) ms_RX7_29 (fun _ => rfl) (by decide) (Nat.le_of_ble_eq_true rfl) hcs dX7_begin_28 rfl ?_
  refine s_aload_n hX dX7_begin_31 rfl ?_
  refine s_iload_n hX dX7_begin_32 rfl ?_
  obtain ⟨σ3, eσ3, h⟩ := bd_some h
  refine s_putI hX fo_RX7_22_6 SH_1 rfl dX7_begin_33 ?_
  refine s_mem σ3 eσ3 ?_
  obtain rfl := rt1 h
  exact hret _ _ dX7_begin_36
def fX9_programChanged (σ : Mm) : Option Mm :=
  bd (upm σ 0 (upd (σ 0) 12 0)) fun σ1 =>
  bd (upm σ1 0 (upd (σ1 0) 13 0)) fun σ2 =>
  some σ2
set_option maxHeartbeats 4000000 in
theorem cX9_programChanged_ok (l : Launch) {σ : Mm} {σ' : Mm}  (h : fX9_programChanged σ = some σ') : cV l yX9_programChanged cX9_programChanged 1 0 0 (fun ad => [.ref (ad 0)]) σ σ' := by
  refine c_enterV (fun ad => [some (.ref (ad 0))]) (by decide) (fun ad => ⟨by simp [Value.category], Nat.le_of_ble_eq_true rfl⟩) (fun ad => ⟨0, rfl⟩) ?_
  intro X _ hX hret
  have hcs : ((0 : Nat), (0 : Nat)).1 ≤ (sR X).cells ∧ ((0 : Nat), (0 : Nat)).2 ≤ (sR X).slots := ⟨Nat.zero_le _, Nat.zero_le _⟩
  generalize hcs0 : ((0 : Nat), (0 : Nat)) = cs at hcs hret ⊢
  unfold fX9_programChanged at h
  show sW X 1 cs σ 0 [some (.ref (sad X 0))] []
  refine s_aload_n hX dX9_programChanged_0 rfl ?_
  refine s_iconst 0 hX dX9_programChanged_1 (by decide) ?_
  obtain ⟨σ1, eσ1, h⟩ := bd_some h
  refine s_putZ hX fo_RX9_225_8 SH_0 rfl (Or.inl rfl) dX9_programChanged_2 ?_
  refine s_mem σ1 eσ1 ?_
  refine s_aload_n hX dX9_programChanged_5 rfl ?_
  refine s_iconst 0 hX dX9_programChanged_6 (by decide) ?_
  obtain ⟨σ2, eσ2, h⟩ := bd_some h
  refine s_putZ hX fo_RX9_322_8 SH_0 rfl (Or.inl rfl) dX9_programChanged_7 ?_
  refine s_mem σ2 eσ2 ?_
  obtain rfl := rt1 h
  exact hret _ _ dX9_programChanged_10
def fX9_isVariable (σ : Mm) (l0 : Int32) : Option Int32 :=
  if l0 < 0 then
  some 0
else
  if 12 ≤ l0 then
  some 0
else
  some 1
set_option maxHeartbeats 4000000 in
theorem cX9_isVariable_ok (l : Launch) {σ : Mm} {l0 : Int32} {r : Int32}  (h : fX9_isVariable σ l0 = some r) : cI l yX9_isVariable cX9_isVariable 1 .boolean 0 0 (fun ad => [.int l0]) σ r σ := by
  refine c_enterI (fun ad => [some (.int l0)]) (by decide) (fun ad => ⟨by simp [Value.category], Nat.le_of_ble_eq_true rfl⟩) (fun ad => ⟨0, rfl⟩) ?_
  intro X _ hX hret
  have hcs : ((0 : Nat), (0 : Nat)).1 ≤ (sR X).cells ∧ ((0 : Nat), (0 : Nat)).2 ≤ (sR X).slots := ⟨Nat.zero_le _, Nat.zero_le _⟩
  generalize hcs0 : ((0 : Nat), (0 : Nat)) = cs at hcs hret ⊢
  unfold fX9_isVariable at h
  show sW X 1 cs σ 0 [some (.int l0)] []
  refine s_iload_n hX dX9_isVariable_0 rfl ?_
  refine s_if_lt (tgt := 14) hX dX9_isVariable_1 (by decide) (fun c2 => ?_) (fun c2 => ?_)
  · replace h := (if_pos c2).symm.trans h
    refine s_iconst 0 hX dX9_isVariable_14 (by decide) ?_
    obtain rfl := rt1 h
    exact hret _ _ nz0 dX9_isVariable_15
  · replace h := (if_neg c2).symm.trans h
    refine s_iload_n hX dX9_isVariable_4 rfl ?_
    refine s_bipush 12 hX dX9_isVariable_5 (by decide) ?_
    refine s_ic_ge (tgt := 14) hX dX9_isVariable_7 (by decide) (fun c1 => ?_) (fun c1 => ?_)
    · replace h := (if_pos c1).symm.trans h
      refine s_iconst 0 hX dX9_isVariable_14 (by decide) ?_
      obtain rfl := rt1 h
      exact hret _ _ nz0 dX9_isVariable_15
    · replace h := (if_neg c1).symm.trans h
      refine s_iconst 1 hX dX9_isVariable_10 (by decide) ?_
      refine s_goto (tgt := 15) hX dX9_isVariable_11 (by decide) ?_
      obtain rfl := rt1 h
      exact hret _ _ nz1 dX9_isVariable_15
def fX9_isInstruction (σ : Mm) (l0 : Int32) (l1 : Int32) (l2 : Int32) (l3 : Int32) : Option Int32 :=
  if l0 < 0 then
  some 0
else
  if 4 < l0 then
  some 0
else
  (fX9_isVariable σ l1).bind fun r1 =>
  if r1 = 0 then
  some 0
else
  if l0 = 0 then
  if l2 < (-999) then
  some 0
else
  if 999 < l2 then
  some 0
else
  some 1
else
  (fX9_isVariable σ l2).bind fun r2 =>
  if r2 = 0 then
  some 0
else
  if l0 = 1 then
  some 1
else
  (fX9_isVariable σ l3).bind fun r3 =>
  if r3 = 0 then
  some 0
else
  some 1
set_option maxHeartbeats 4000000 in
theorem cX9_isInstruction_ok (l : Launch) {σ : Mm} {l0 : Int32} {l1 : Int32} {l2 : Int32} {l3 : Int32} {r : Int32}  (h : fX9_isInstruction σ l0 l1 l2 l3 = some r) : cI l yX9_isInstruction cX9_isInstruction 4 .boolean 1 20 (fun ad => [.int l0, .int l1, .int l2, .int l3]) σ r σ := by
  refine c_enterI (fun ad => [some (.int l0), some (.int l1), some (.int l2), some (.int l3)]) (by decide) (fun ad => ⟨by simp [Value.category], Nat.le_of_ble_eq_true rfl⟩) (fun ad => ⟨0, rfl⟩) ?_
  intro X _ hX hret
  have hcs : ((0 : Nat), (0 : Nat)).1 ≤ (sR X).cells ∧ ((0 : Nat), (0 : Nat)).2 ≤ (sR X).slots := ⟨Nat.zero_le _, Nat.zero_le _⟩
  generalize hcs0 : ((0 : Nat), (0 : Nat)) = cs at hcs hret ⊢
  unfold fX9_isInstruction at h
  show sW X 4 cs σ 0 [some (.int l0), some (.int l1), some (.int l2), some (.int l3)] []
  refine s_iload_n hX dX9_isInstruction_0 rfl ?_
  refine s_if_lt (tgt := 16) hX dX9_isInstruction_1 (by decide) (fun c12 => ?_) (fun c12 => ?_)
  · replace h := (if_pos c12).symm.trans h
    refine s_iconst 0 hX dX9_isInstruction_16 (by decide) ?_
    obtain rfl := rt1 h
    exact hret _ _ nz0 dX9_isInstruction_17
  · replace h := (if_neg c12).symm.trans h
    refine s_iload_n hX dX9_isInstruction_4 rfl ?_
    refine s_iconst 4 hX dX9_isInstruction_5 (by decide) ?_
    refine s_ic_gt (tgt := 16) hX dX9_isInstruction_6 (by decide) (fun c11 => ?_) (fun c11 => ?_)
    · replace h := (if_pos c11).symm.trans h
      refine s_iconst 0 hX dX9_isInstruction_16 (by decide) ?_
      obtain rfl := rt1 h
      exact hret _ _ nz0 dX9_isInstruction_17
    · replace h := (if_neg c11).symm.trans h
      refine s_iload_n hX dX9_isInstruction_9 rfl ?_
      obtain ⟨r1, hc, h⟩ := bn_some h
      refine s_callSI _ hX (cX9_isVariable_ok (sl X)  hc) ms_RX9_365 (fun _ => rfl) (by decide) (Nat.le_of_ble_eq_true rfl) hcs dX9_isInstruction_10 rfl ?_
      refine s_if_ne (tgt := 18) hX dX9_isInstruction_13 (by decide) (fun c10 => ?_) (fun c10 => ?_)
      · replace h := (if_neg c10).symm.trans h
        refine s_iload_n hX dX9_isInstruction_18 rfl ?_
        refine s_if_ne (tgt := 42) hX dX9_isInstruction_19 (by decide) (fun c9 => ?_) (fun c9 => ?_)
        · replace h := (if_neg c9).symm.trans h
          refine s_iload_n hX dX9_isInstruction_42 rfl ?_
          obtain ⟨r2, hc, h⟩ := bn_some h
          refine s_callSI _ hX (cX9_isVariable_ok (sl X)  hc) ms_RX9_365 (fun _ => rfl) (by decide) (Nat.le_of_ble_eq_true rfl) hcs dX9_isInstruction_43 rfl ?_
          refine s_if_eq (tgt := 65) hX dX9_isInstruction_46 (by decide) (fun c6 => ?_) (fun c6 => ?_)
          · replace h := (if_pos c6).symm.trans h
            refine s_iconst 0 hX dX9_isInstruction_65 (by decide) ?_
            obtain rfl := rt1 h
            exact hret _ _ nz0 dX9_isInstruction_66
          · replace h := (if_neg c6).symm.trans h
            refine s_iload_n hX dX9_isInstruction_49 rfl ?_
            refine s_iconst 1 hX dX9_isInstruction_50 (by decide) ?_
            refine s_ic_eq (tgt := 61) hX dX9_isInstruction_51 (by decide) (fun c5 => ?_) (fun c5 => ?_)
            · replace h := (if_pos c5).symm.trans h
              refine s_iconst 1 hX dX9_isInstruction_61 (by decide) ?_
              refine s_goto (tgt := 66) hX dX9_isInstruction_62 (by decide) ?_
              obtain rfl := rt1 h
              exact hret _ _ nz1 dX9_isInstruction_66
            · replace h := (if_neg c5).symm.trans h
              refine s_iload_n hX dX9_isInstruction_54 rfl ?_
              obtain ⟨r3, hc, h⟩ := bn_some h
              refine s_callSI _ hX (cX9_isVariable_ok (sl X)  hc) ms_RX9_365 (fun _ => rfl) (by decide) (Nat.le_of_ble_eq_true rfl) hcs dX9_isInstruction_55 rfl ?_
              refine s_if_eq (tgt := 65) hX dX9_isInstruction_58 (by decide) (fun c4 => ?_) (fun c4 => ?_)
              · replace h := (if_pos c4).symm.trans h
                refine s_iconst 0 hX dX9_isInstruction_65 (by decide) ?_
                obtain rfl := rt1 h
                exact hret _ _ nz0 dX9_isInstruction_66
              · replace h := (if_neg c4).symm.trans h
                refine s_iconst 1 hX dX9_isInstruction_61 (by decide) ?_
                refine s_goto (tgt := 66) hX dX9_isInstruction_62 (by decide) ?_
                obtain rfl := rt1 h
                exact hret _ _ nz1 dX9_isInstruction_66
        · replace h := (if_pos c9).symm.trans h
          refine s_iload_n hX dX9_isInstruction_22 rfl ?_
          refine s_sipush (-999) hX dX9_isInstruction_23 (by decide) ?_
          refine s_ic_lt (tgt := 40) hX dX9_isInstruction_26 (by decide) (fun c8 => ?_) (fun c8 => ?_)
          · replace h := (if_pos c8).symm.trans h
            refine s_iconst 0 hX dX9_isInstruction_40 (by decide) ?_
            obtain rfl := rt1 h
            exact hret _ _ nz0 dX9_isInstruction_41
          · replace h := (if_neg c8).symm.trans h
            refine s_iload_n hX dX9_isInstruction_29 rfl ?_
            refine s_sipush 999 hX dX9_isInstruction_30 (by decide) ?_
            refine s_ic_gt (tgt := 40) hX dX9_isInstruction_33 (by decide) (fun c7 => ?_) (fun c7 => ?_)
            · replace h := (if_pos c7).symm.trans h
              refine s_iconst 0 hX dX9_isInstruction_40 (by decide) ?_
              obtain rfl := rt1 h
              exact hret _ _ nz0 dX9_isInstruction_41
            · replace h := (if_neg c7).symm.trans h
              refine s_iconst 1 hX dX9_isInstruction_36 (by decide) ?_
              refine s_goto (tgt := 41) hX dX9_isInstruction_37 (by decide) ?_
              obtain rfl := rt1 h
              exact hret _ _ nz1 dX9_isInstruction_41
      · replace h := (if_pos c10).symm.trans h
        refine s_iconst 0 hX dX9_isInstruction_16 (by decide) ?_
        obtain rfl := rt1 h
        exact hret _ _ nz0 dX9_isInstruction_17
def fX0_add (σ : Mm) (k : Nat) (l1 : Int32) (l2 : Int32) (l3 : Int32) (l4 : Int32) : Option Mm :=
  if 8 ≤ (σ k 4) then
  some σ
else
  gd (σ k 4) 8 <|
  bd (upm σ (k + 1) (upd (σ (k + 1)) (σ k 4).toNatClampNeg l1)) fun σ2 =>
  gd (σ2 k 4) 8 <|
  bd (upm σ2 (k + 2) (upd (σ2 (k + 2)) (σ2 k 4).toNatClampNeg l2)) fun σ4 =>
  gd (σ4 k 4) 8 <|
  bd (upm σ4 (k + 3) (upd (σ4 (k + 3)) (σ4 k 4).toNatClampNeg l3)) fun σ6 =>
  jn (fun (v7 : Int32) => gd (σ6 k 4) 8 <|
  bd (upm σ6 (k + 4) (upd (σ6 (k + 4)) (σ6 k 4).toNatClampNeg v7)) fun σ10 =>
  bd (upm σ10 k (upd (σ10 k) 4 ((σ10 k 4) + 1))) fun σ11 =>
  some σ11) fun j8 =>
  if l1 < 2 then
  j8 (-1)
else
  j8 l4
set_option maxHeartbeats 4000000 in
theorem cX0_add_ok (l : Launch) {σ : Mm} {k : Nat} {l1 : Int32} {l2 : Int32} {l3 : Int32} {l4 : Int32} {σ' : Mm} (hB : isB k) (h : fX0_add σ k l1 l2 l3 l4 = some σ') : cV l yX0_add cX0_add 5 0 0 (fun ad => [.ref (ad k), .int l1, .int l2, .int l3, .int l4]) σ σ' := by
  refine c_enterV (fun ad => [some (.ref (ad k)), some (.int l1), some (.int l2), some (.int l3), some (.int l4)]) (by decide) (fun ad => ⟨by simp [Value.category], Nat.le_of_ble_eq_true rfl⟩) (fun ad => ⟨0, rfl⟩) ?_
  intro X _ hX hret
  have hcs : ((0 : Nat), (0 : Nat)).1 ≤ (sR X).cells ∧ ((0 : Nat), (0 : Nat)).2 ≤ (sR X).slots := ⟨Nat.zero_le _, Nat.zero_le _⟩
  generalize hcs0 : ((0 : Nat), (0 : Nat)) = cs at hcs hret ⊢
  unfold fX0_add at h
  show sW X 5 cs σ 0 [some (.ref (sad X k)), some (.int l1), some (.int l2), some (.int l3), some (.int l4)] []
  refine s_aload_n hX dX0_add_0 rfl ?_
  refine s_getI hX fo_RX0_27_0 (isB_0 hB) rfl dX0_add_1 ?_
  refine s_bipush 8 hX dX0_add_4 (by decide) ?_
  refine s_ic_ge (tgt := 69) hX dX0_add_6 (by decide) (fun c13 => ?_) (fun c13 => ?_)
  · replace h := (if_pos c13).symm.trans h
    obtain rfl := rt1 h
    exact hret _ _ dX0_add_69
  · replace h := (if_neg c13).symm.trans h
    refine s_aload_n hX dX0_add_9 rfl ?_
    refine s_getR (r := k + 1) hX fo_RX0_9_0 (isB_0 hB) rfl dX0_add_10 ?_
    refine s_aload_n hX dX0_add_13 rfl ?_
    refine s_getI hX fo_RX0_27_0 (isB_0 hB) rfl dX0_add_14 ?_
    refine s_iload_n hX dX0_add_17 rfl ?_
    obtain ⟨c1, h⟩ := gd_some h
    obtain ⟨σ2, eσ2, h⟩ := bd_some h
    refine s_iast hX (isB_r hB).1 c1 dX0_add_18 ?_
    refine s_mem σ2 eσ2 ?_
    refine s_aload_n hX dX0_add_19 rfl ?_
    refine s_getR (r := k + 2) hX fo_RX0_15_0 (isB_0 hB) rfl dX0_add_20 ?_
    refine s_aload_n hX dX0_add_23 rfl ?_
    refine s_getI hX fo_RX0_27_0 (isB_0 hB) rfl dX0_add_24 ?_
    refine s_iload_n hX dX0_add_27 rfl ?_
    obtain ⟨c3, h⟩ := gd_some h
    obtain ⟨σ4, eσ4, h⟩ := bd_some h
    refine s_iast hX (isB_r hB).2.1 c3 dX0_add_28 ?_
    refine s_mem σ4 eσ4 ?_
    refine s_aload_n hX dX0_add_29 rfl ?_
    refine s_getR (r := k + 3) hX fo_RX0_18_0 (isB_0 hB) rfl dX0_add_30 ?_
    refine s_aload_n hX dX0_add_33 rfl ?_
    refine s_getI hX fo_RX0_27_0 (isB_0 hB) rfl dX0_add_34 ?_
    refine s_iload_n hX dX0_add_37 rfl ?_
    obtain ⟨c5, h⟩ := gd_some h
    obtain ⟨σ6, eσ6, h⟩ := bd_some h
    refine s_iast hX (isB_r hB).2.2.1 c5 dX0_add_38 ?_
    refine s_mem σ6 eσ6 ?_
    refine s_aload_n hX dX0_add_39 rfl ?_
    refine s_getR (r := k + 4) hX fo_RX0_21_0 (isB_0 hB) rfl dX0_add_40 ?_
    refine s_aload_n hX dX0_add_43 rfl ?_
    refine s_getI hX fo_RX0_27_0 (isB_0 hB) rfl dX0_add_44 ?_
    refine s_iload_n hX dX0_add_47 rfl ?_
    refine s_iconst 2 hX dX0_add_48 (by decide) ?_
    refine jn_use (fun j => ∀ (v7 : Int32), j v7 = some σ' → sW X 5 cs σ6 58 [some (.ref (sad X k)), none, none, none, none] [.int v7, .int (σ6 k 4), .ref (sad X (k + 4))]) h ?_ ?_
    · intro v7 h
      obtain ⟨c9, h⟩ := gd_some h
      obtain ⟨σ10, eσ10, h⟩ := bd_some h
      refine s_iast hX (isB_r hB).2.2.2 c9 dX0_add_58 ?_
      refine s_mem σ10 eσ10 ?_
      refine s_aload_n hX dX0_add_59 rfl ?_
      refine s_dup hX dX0_add_60 rfl ?_
      refine s_getI hX fo_RX0_27_0 (isB_0 hB) rfl dX0_add_61 ?_
      refine s_iconst 1 hX dX0_add_64 (by decide) ?_
      refine s_iadd hX dX0_add_65 ?_
      obtain ⟨σ11, eσ11, h⟩ := bd_some h
      refine s_putI hX fo_RX0_27_0 (isB_0 hB) rfl dX0_add_66 ?_
      refine s_mem σ11 eσ11 ?_
      obtain rfl := rt1 h
      exact hret _ _ dX0_add_69
    · intro j8 hj8 h
      refine s_ic_lt (tgt := 57) hX dX0_add_49 (by decide) (fun c12 => ?_) (fun c12 => ?_)
      · replace h := (if_pos c12).symm.trans h
        refine s_iconst (-1) hX dX0_add_57 (by decide) ?_
        refine s_mask [true, false, false, false, false] ?_
        exact hj8 _ h
      · replace h := (if_neg c12).symm.trans h
        refine s_iload hX dX0_add_52 rfl ?_
        refine s_goto (tgt := 58) hX dX0_add_54 (by decide) ?_
        refine s_mask [true, false, false, false, false] ?_
        exact hj8 _ h
def fX0_successors (σ : Mm) (k : Nat) : Option Int32 :=
  if (σ k 5) = 2 then
  some 0
else
  if (σ k 5) = 0 then
  some (1 <<< ((σ k 7) &&& 31))
else
  some ((1 <<< ((σ k 7) &&& 31)) ||| (1 <<< ((σ k 8) &&& 31)))
set_option maxHeartbeats 4000000 in
theorem cX0_successors_ok (l : Launch) {σ : Mm} {k : Nat} {r : Int32} (hB : isB k) (h : fX0_successors σ k = some r) : cI l yX0_successors cX0_successors 1 .int 0 0 (fun ad => [.ref (ad k)]) σ r σ := by
  refine c_enterI (fun ad => [some (.ref (ad k))]) (by decide) (fun ad => ⟨by simp [Value.category], Nat.le_of_ble_eq_true rfl⟩) (fun ad => ⟨0, rfl⟩) ?_
  intro X _ hX hret
  have hcs : ((0 : Nat), (0 : Nat)).1 ≤ (sR X).cells ∧ ((0 : Nat), (0 : Nat)).2 ≤ (sR X).slots := ⟨Nat.zero_le _, Nat.zero_le _⟩
  generalize hcs0 : ((0 : Nat), (0 : Nat)) = cs at hcs hret ⊢
  unfold fX0_successors at h
  show sW X 1 cs σ 0 [some (.ref (sad X k))] []
  refine s_aload_n hX dX0_successors_0 rfl ?_
  refine s_getI hX fo_RX0_38_0 (isB_0 hB) rfl dX0_successors_1 ?_
  refine s_iconst 2 hX dX0_successors_4 (by decide) ?_
  refine s_ic_ne (tgt := 10) hX dX0_successors_5 (by decide) (fun c2 => ?_) (fun c2 => ?_)
  · replace h := (if_neg c2).symm.trans h
    refine s_aload_n hX dX0_successors_10 rfl ?_
    refine s_getI hX fo_RX0_38_0 (isB_0 hB) rfl dX0_successors_11 ?_
    refine s_if_ne (tgt := 26) hX dX0_successors_14 (by decide) (fun c1 => ?_) (fun c1 => ?_)
    · replace h := (if_neg c1).symm.trans h
      refine s_iconst 1 hX dX0_successors_26 (by decide) ?_
      refine s_aload_n hX dX0_successors_27 rfl ?_
      refine s_getI hX fo_RX0_44_0 (isB_0 hB) rfl dX0_successors_28 ?_
      refine s_ishl hX dX0_successors_31 ?_
      refine s_iconst 1 hX dX0_successors_32 (by decide) ?_
      refine s_aload_n hX dX0_successors_33 rfl ?_
      refine s_getI hX fo_RX0_47_0 (isB_0 hB) rfl dX0_successors_34 ?_
      refine s_ishl hX dX0_successors_37 ?_
      refine s_ior hX dX0_successors_38 ?_
      obtain rfl := rt1 h
      exact hret _ _ (nzi _) dX0_successors_39
    · replace h := (if_pos c1).symm.trans h
      refine s_iconst 1 hX dX0_successors_17 (by decide) ?_
      refine s_aload_n hX dX0_successors_18 rfl ?_
      refine s_getI hX fo_RX0_44_0 (isB_0 hB) rfl dX0_successors_19 ?_
      refine s_ishl hX dX0_successors_22 ?_
      refine s_goto (tgt := 39) hX dX0_successors_23 (by decide) ?_
      obtain rfl := rt1 h
      exact hret _ _ (nzi _) dX0_successors_39
  · replace h := (if_pos c2).symm.trans h
    refine s_iconst 0 hX dX0_successors_8 (by decide) ?_
    obtain rfl := rt1 h
    exact hret _ _ (nzi _) dX0_successors_9
def fX0_usedByEnd (σ : Mm) (k : Nat) : Option Int32 :=
  if (σ k 5) = 0 then
  some 0
else
  some (1 <<< ((σ k 6) &&& 31))
set_option maxHeartbeats 4000000 in
theorem cX0_usedByEnd_ok (l : Launch) {σ : Mm} {k : Nat} {r : Int32} (hB : isB k) (h : fX0_usedByEnd σ k = some r) : cI l yX0_usedByEnd cX0_usedByEnd 1 .int 0 0 (fun ad => [.ref (ad k)]) σ r σ := by
  refine c_enterI (fun ad => [some (.ref (ad k))]) (by decide) (fun ad => ⟨by simp [Value.category], Nat.le_of_ble_eq_true rfl⟩) (fun ad => ⟨0, rfl⟩) ?_
  intro X _ hX hret
  have hcs : ((0 : Nat), (0 : Nat)).1 ≤ (sR X).cells ∧ ((0 : Nat), (0 : Nat)).2 ≤ (sR X).slots := ⟨Nat.zero_le _, Nat.zero_le _⟩
  generalize hcs0 : ((0 : Nat), (0 : Nat)) = cs at hcs hret ⊢
  unfold fX0_usedByEnd at h
  show sW X 1 cs σ 0 [some (.ref (sad X k))] []
  refine s_aload_n hX dX0_usedByEnd_0 rfl ?_
  refine s_getI hX fo_RX0_38_0 (isB_0 hB) rfl dX0_usedByEnd_1 ?_
  refine s_if_ne (tgt := 11) hX dX0_usedByEnd_4 (by decide) (fun c1 => ?_) (fun c1 => ?_)
  · replace h := (if_neg c1).symm.trans h
    refine s_iconst 1 hX dX0_usedByEnd_11 (by decide) ?_
    refine s_aload_n hX dX0_usedByEnd_12 rfl ?_
    refine s_getI hX fo_RX0_41_0 (isB_0 hB) rfl dX0_usedByEnd_13 ?_
    refine s_ishl hX dX0_usedByEnd_16 ?_
    obtain rfl := rt1 h
    exact hret _ _ (nzi _) dX0_usedByEnd_17
  · replace h := (if_pos c1).symm.trans h
    refine s_iconst 0 hX dX0_usedByEnd_7 (by decide) ?_
    refine s_goto (tgt := 17) hX dX0_usedByEnd_8 (by decide) ?_
    obtain rfl := rt1 h
    exact hret _ _ (nzi _) dX0_usedByEnd_17
def fX0_usedBy (σ : Mm) (k : Nat) (l1 : Int32) : Option Int32 :=
  gd l1 8 <|
  if (σ (k + 1) l1.toNatClampNeg) = 0 then
  some 0
else
  gd l1 8 <|
  bd (1 <<< ((σ (k + 3) l1.toNatClampNeg) &&& 31)) fun v3 =>
  gd l1 8 <|
  if (σ (k + 1) l1.toNatClampNeg) = 1 then
  some v3
else
  gd l1 8 <|
  some (v3 ||| (1 <<< ((σ (k + 4) l1.toNatClampNeg) &&& 31)))
set_option maxHeartbeats 4000000 in
theorem cX0_usedBy_ok (l : Launch) {σ : Mm} {k : Nat} {l1 : Int32} {r : Int32} (hB : isB k) (h : fX0_usedBy σ k l1 = some r) : cI l yX0_usedBy cX0_usedBy 3 .int 0 0 (fun ad => [.ref (ad k), .int l1]) σ r σ := by
  refine c_enterI (fun ad => [some (.ref (ad k)), some (.int l1), none]) (by decide) (fun ad => ⟨by simp [Value.category], Nat.le_of_ble_eq_true rfl⟩) (fun ad => ⟨1, rfl⟩) ?_
  intro X _ hX hret
  have hcs : ((0 : Nat), (0 : Nat)).1 ≤ (sR X).cells ∧ ((0 : Nat), (0 : Nat)).2 ≤ (sR X).slots := ⟨Nat.zero_le _, Nat.zero_le _⟩
  generalize hcs0 : ((0 : Nat), (0 : Nat)) = cs at hcs hret ⊢
  unfold fX0_usedBy at h
  show sW X 3 cs σ 0 [some (.ref (sad X k)), some (.int l1), none] []
  refine s_aload_n hX dX0_usedBy_0 rfl ?_
  refine s_getR (r := k + 1) hX fo_RX0_9_0 (isB_0 hB) rfl dX0_usedBy_1 ?_
  refine s_iload_n hX dX0_usedBy_4 rfl ?_
  obtain ⟨c1, h⟩ := gd_some h
  refine s_iald hX (isB_r hB).1 c1 dX0_usedBy_5 ?_
  refine s_if_ne (tgt := 11) hX dX0_usedBy_6 (by decide) (fun c7 => ?_) (fun c7 => ?_)
  · replace h := (if_neg c7).symm.trans h
    refine s_iconst 1 hX dX0_usedBy_11 (by decide) ?_
    refine s_aload_n hX dX0_usedBy_12 rfl ?_
    refine s_getR (r := k + 3) hX fo_RX0_18_0 (isB_0 hB) rfl dX0_usedBy_13 ?_
    refine s_iload_n hX dX0_usedBy_16 rfl ?_
    obtain ⟨c2, h⟩ := gd_some h
    refine s_iald hX (isB_r hB).2.2.1 c2 dX0_usedBy_17 ?_
    refine s_ishl hX dX0_usedBy_18 ?_
    obtain ⟨v3, ev3, h⟩ := bd_some h
    refine s_topi v3 ev3 ?_
    refine s_istore_n hX dX0_usedBy_19 (by decide) ?_
    refine s_aload_n hX dX0_usedBy_20 rfl ?_
    refine s_getR (r := k + 1) hX fo_RX0_9_0 (isB_0 hB) rfl dX0_usedBy_21 ?_
    refine s_iload_n hX dX0_usedBy_24 rfl ?_
    obtain ⟨c4, h⟩ := gd_some h
    refine s_iald hX (isB_r hB).1 c4 dX0_usedBy_25 ?_
    refine s_iconst 1 hX dX0_usedBy_26 (by decide) ?_
    refine s_ic_ne (tgt := 34) hX dX0_usedBy_27 (by decide) (fun c6 => ?_) (fun c6 => ?_)
    · replace h := (if_neg c6).symm.trans h
      refine s_iload_n hX dX0_usedBy_34 rfl ?_
      refine s_iconst 1 hX dX0_usedBy_35 (by decide) ?_
      refine s_aload_n hX dX0_usedBy_36 rfl ?_
      refine s_getR (r := k + 4) hX fo_RX0_21_0 (isB_0 hB) rfl dX0_usedBy_37 ?_
      refine s_iload_n hX dX0_usedBy_40 rfl ?_
      obtain ⟨c5, h⟩ := gd_some h
      refine s_iald hX (isB_r hB).2.2.2 c5 dX0_usedBy_41 ?_
      refine s_ishl hX dX0_usedBy_42 ?_
      refine s_ior hX dX0_usedBy_43 ?_
      obtain rfl := rt1 h
      exact hret _ _ (nzi _) dX0_usedBy_44
    · replace h := (if_pos c6).symm.trans h
      refine s_iload_n hX dX0_usedBy_30 rfl ?_
      refine s_goto (tgt := 44) hX dX0_usedBy_31 (by decide) ?_
      obtain rfl := rt1 h
      exact hret _ _ (nzi _) dX0_usedBy_44
  · replace h := (if_pos c7).symm.trans h
    refine s_iconst 0 hX dX0_usedBy_9 (by decide) ?_
    obtain rfl := rt1 h
    exact hret _ _ (nzi _) dX0_usedBy_10
def fX9_has (σ : Mm) (l0 : Int32) (l1 : Int32) : Option Int32 :=
  if ((l0 >>> (l1 &&& 31)) &&& 1) = 0 then
  some 0
else
  some 1
set_option maxHeartbeats 4000000 in
theorem cX9_has_ok (l : Launch) {σ : Mm} {l0 : Int32} {l1 : Int32} {r : Int32}  (h : fX9_has σ l0 l1 = some r) : cI l yX9_has cX9_has 2 .boolean 0 0 (fun ad => [.int l0, .int l1]) σ r σ := by
  refine c_enterI (fun ad => [some (.int l0), some (.int l1)]) (by decide) (fun ad => ⟨by simp [Value.category], Nat.le_of_ble_eq_true rfl⟩) (fun ad => ⟨0, rfl⟩) ?_
  intro X _ hX hret
  have hcs : ((0 : Nat), (0 : Nat)).1 ≤ (sR X).cells ∧ ((0 : Nat), (0 : Nat)).2 ≤ (sR X).slots := ⟨Nat.zero_le _, Nat.zero_le _⟩
  generalize hcs0 : ((0 : Nat), (0 : Nat)) = cs at hcs hret ⊢
  unfold fX9_has at h
  show sW X 2 cs σ 0 [some (.int l0), some (.int l1)] []
  refine s_iload_n hX dX9_has_0 rfl ?_
  refine s_iload_n hX dX9_has_1 rfl ?_
  refine s_ishr hX dX9_has_2 ?_
  refine s_iconst 1 hX dX9_has_3 (by decide) ?_
  refine s_iand hX dX9_has_4 ?_
  refine s_if_eq (tgt := 12) hX dX9_has_5 (by decide) (fun c1 => ?_) (fun c1 => ?_)
  · replace h := (if_pos c1).symm.trans h
    refine s_iconst 0 hX dX9_has_12 (by decide) ?_
    obtain rfl := rt1 h
    exact hret _ _ nz0 dX9_has_13
  · replace h := (if_neg c1).symm.trans h
    refine s_iconst 1 hX dX9_has_8 (by decide) ?_
    refine s_goto (tgt := 13) hX dX9_has_9 (by decide) ?_
    obtain rfl := rt1 h
    exact hret _ _ nz1 dX9_has_13
def fX1_liveAtBeginning (σ : Mm) (l1 : Int32) : Option Int32 :=
  gd (l1 * 9) 72 <|
  some (σ 88 (l1 * 9).toNatClampNeg)
set_option maxHeartbeats 4000000 in
theorem cX1_liveAtBeginning_ok (l : Launch) {σ : Mm} {l1 : Int32} {r : Int32}  (h : fX1_liveAtBeginning σ l1 = some r) : cI l yX1_liveAtBeginning cX1_liveAtBeginning 2 .int 0 0 (fun ad => [.ref (ad 87), .int l1]) σ r σ := by
  refine c_enterI (fun ad => [some (.ref (ad 87)), some (.int l1)]) (by decide) (fun ad => ⟨by simp [Value.category], Nat.le_of_ble_eq_true rfl⟩) (fun ad => ⟨0, rfl⟩) ?_
  intro X _ hX hret
  have hcs : ((0 : Nat), (0 : Nat)).1 ≤ (sR X).cells ∧ ((0 : Nat), (0 : Nat)).2 ≤ (sR X).slots := ⟨Nat.zero_le _, Nat.zero_le _⟩
  generalize hcs0 : ((0 : Nat), (0 : Nat)) = cs at hcs hret ⊢
  unfold fX1_liveAtBeginning at h
  show sW X 2 cs σ 0 [some (.ref (sad X 87)), some (.int l1)] []
  refine s_aload_n hX dX1_liveAtBeginning_0 rfl ?_
  refine s_getR (r := 88) hX fo_RX1_9_1 SH_87 rfl dX1_liveAtBeginning_1 ?_
  refine s_iload_n hX dX1_liveAtBeginning_4 rfl ?_
  refine s_bipush 9 hX dX1_liveAtBeginning_5 (by decide) ?_
  refine s_imul hX dX1_liveAtBeginning_7 ?_
  obtain ⟨c1, h⟩ := gd_some h
  refine s_iald hX SH_88 c1 dX1_liveAtBeginning_8 ?_
  obtain rfl := rt1 h
  exact hret _ _ (nzi _) dX1_liveAtBeginning_9
def gX1_findLiveIn_24 (σ : Mm) (l1 : Int32) (k2 : Nat) (l3 : Int32) (rec : Int32 × Int32 → Option (Int32)) (x4 : Int32) (x5 : Int32) : Option (Int32) :=
  if (σ 1 2) ≤ x5 then
  some x4
else
  (fX9_has σ l3 x5).bind fun r1 =>
  if r1 = 0 then
  bd (x5 + 1) fun v2 =>
  rec (x4, v2)
else
  (fX1_liveAtBeginning σ x5).bind fun r3 =>
  bd (x4 ||| r3) fun v4 =>
  bd (x5 + 1) fun v5 =>
  rec (v4, v5)
def qX1_findLiveIn_24 (σ : Mm) (l1 : Int32) (k2 : Nat) (l3 : Int32) : Nat → Int32 × Int32 → Option (Int32) := lp (fun rec s => gX1_findLiveIn_24 σ l1 k2 l3 rec s.1 s.2)
def gX1_findLiveIn_86 (l1 : Int32) (k2 : Nat) (rec : Mm × Int32 × Int32 → Option (Mm)) (σ : Mm) (x4 : Int32) (x5 : Int32) : Option (Mm) :=
  if x5 < 0 then
  some σ
else
  gd x5 8 <|
  (fX0_usedBy σ k2 x5).bind fun r2 =>
  bd ((x4 &&& ((1 <<< ((σ (k2 + 2) x5.toNatClampNeg) &&& 31)) ^^^ (-1))) ||| r2) fun v3 =>
  gd ((l1 * 9) + x5) 72 <|
  bd (upm σ 88 (upd (σ 88) ((l1 * 9) + x5).toNatClampNeg v3)) fun σ5 =>
  bd (x5 + (-1)) fun v6 =>
  rec (σ5, v3, v6)
def qX1_findLiveIn_86 (l1 : Int32) (k2 : Nat) : Nat → Mm × Int32 × Int32 → Option (Mm) := lp (fun rec s => gX1_findLiveIn_86 l1 k2 rec s.1 s.2.1 s.2.2)
def fX1_findLiveIn (σ : Mm) (l1 : Int32) : Option Mm :=
  gd l1 8 <|
  bd (4 + 5 * l1.toNatClampNeg) fun k2 =>
  (fX0_successors σ k2).bind fun r3 =>
  (fX0_usedByEnd σ k2).bind fun r4 =>
  (qX1_findLiveIn_24 σ l1 k2 r3 FU (r4, 0)).bind fun v5 =>
  gd ((l1 * 9) + (σ k2 4)) 72 <|
  bd (upm σ 88 (upd (σ 88) ((l1 * 9) + (σ k2 4)).toNatClampNeg v5)) fun σ7 =>
  bd ((σ7 k2 4) - 1) fun v8 =>
  (qX1_findLiveIn_86 l1 k2 FU (σ7, v5, v8)).bind fun σ9 =>
  some σ9
set_option maxHeartbeats 4000000 in
theorem pX1_findLiveIn_24 {X : sT} {cs : Nat × Nat} (hX : sX X cX1_findLiveIn RX1 6 1 22) (hcs : cs.1 ≤ (sR X).cells ∧ cs.2 ≤ (sR X).slots) (σ : Mm) (l1 : Int32) (k2 : Nat) (l3 : Int32) (hB2 : isB k2) : ∀ (n : Nat) (s : Int32 × Int32) (r : Int32), qX1_findLiveIn_24 σ l1 k2 l3 n s = some r → sW X 6 cs σ 62 [some (.ref (sad X 87)), some (.int l1), some (.ref (sad X k2)), none, some (.int r), none] [] → sW X 6 cs σ 24 [some (.ref (sad X 87)), some (.int l1), some (.ref (sad X k2)), some (.int l3), some (.int s.1), some (.int s.2)] [] := by
  refine lp_ind (P := fun (s : Int32 × Int32) (r : Int32) => sW X 6 cs σ 62 [some (.ref (sad X 87)), some (.int l1), some (.ref (sad X k2)), none, some (.int r), none] [] → sW X 6 cs σ 24 [some (.ref (sad X 87)), some (.int l1), some (.ref (sad X k2)), some (.int l3), some (.int s.1), some (.int s.2)] []) ?_
  intro rec hrec s r h0 hk
  obtain ⟨x4, x5⟩ := s
  have h : gX1_findLiveIn_24 σ l1 k2 l3 rec x4 x5 = some r := h0
  unfold gX1_findLiveIn_24 at h
  show sW X 6 cs σ 24 [some (.ref (sad X 87)), some (.int l1), some (.ref (sad X k2)), some (.int l3), some (.int x4), some (.int x5)] []
  refine s_iload hX dX1_findLiveIn_24 rfl ?_
  refine s_aload_n hX dX1_findLiveIn_26 rfl ?_
  refine s_getR (r := 1) hX fo_RX1_30_1 SH_87 rfl dX1_findLiveIn_27 ?_
  refine s_getI hX fo_RX1_49_6 SH_1 rfl dX1_findLiveIn_30 ?_
  refine s_ic_ge (tgt := 62) hX dX1_findLiveIn_33 (by decide) (fun c7 => ?_) (fun c7 => ?_)
  · replace h := (if_pos c7).symm.trans h
    obtain rfl := rt1 h
    refine s_mask [true, true, true, false, true, false] ?_
    exact hk
  · replace h := (if_neg c7).symm.trans h
    refine s_iload_n hX dX1_findLiveIn_36 rfl ?_
    refine s_iload hX dX1_findLiveIn_37 rfl ?_
    obtain ⟨r1, hc, h⟩ := bn_some h
    refine s_callSI _ hX (cX9_has_ok (sl X)  hc) ms_RX1_72 (fun _ => rfl) (by decide) (Nat.le_of_ble_eq_true rfl) hcs dX1_findLiveIn_39 rfl ?_
    refine s_if_eq (tgt := 56) hX dX1_findLiveIn_42 (by decide) (fun c6 => ?_) (fun c6 => ?_)
    · replace h := (if_pos c6).symm.trans h
      obtain ⟨v2, ev2, h⟩ := bd_some h
      refine s_iinc v2 hX dX1_findLiveIn_56 rfl (by rw [ev2]; rfl) (by decide) ?_
      refine s_goto (tgt := 24) hX dX1_findLiveIn_59 (by decide) ?_
      refine s_mask [true, true, true, true, true, true] ?_
      exact hrec _ _ h hk
    · replace h := (if_neg c6).symm.trans h
      refine s_iload hX dX1_findLiveIn_45 rfl ?_
      refine s_aload_n hX dX1_findLiveIn_47 rfl ?_
      refine s_iload hX dX1_findLiveIn_48 rfl ?_
      obtain ⟨r3, hc, h⟩ := bn_some h
      refine s_callVI _ hX (cX1_liveAtBeginning_ok (sl X)  hc) SH_87 mv_RX1_76_1 (fun _ => rfl) (by decide) (Nat.le_of_ble_eq_true rfl) hcs dX1_findLiveIn_50 rfl ?_
      refine s_ior hX dX1_findLiveIn_53 ?_
      obtain ⟨v4, ev4, h⟩ := bd_some h
      refine s_topi v4 ev4 ?_
      refine s_istore hX dX1_findLiveIn_54 (by decide) ?_
      obtain ⟨v5, ev5, h⟩ := bd_some h
      refine s_iinc v5 hX dX1_findLiveIn_56 rfl (by rw [ev5]; rfl) (by decide) ?_
      refine s_goto (tgt := 24) hX dX1_findLiveIn_59 (by decide) ?_
      refine s_mask [true, true, true, true, true, true] ?_
      exact hrec _ _ h hk
set_option maxHeartbeats 4000000 in
theorem pX1_findLiveIn_86 {X : sT} {cs : Nat × Nat} (hX : sX X cX1_findLiveIn RX1 6 1 22) (hcs : cs.1 ≤ (sR X).cells ∧ cs.2 ≤ (sR X).slots) (l1 : Int32) (k2 : Nat) (hB2 : isB k2) : ∀ (n : Nat) (s : Mm × Int32 × Int32) (r : Mm), qX1_findLiveIn_86 l1 k2 n s = some r → sW X 6 cs r 134 [none, none, none, none, none, none] [] → sW X 6 cs s.1 86 [some (.ref (sad X 87)), some (.int l1), some (.ref (sad X k2)), none, some (.int s.2.1), some (.int s.2.2)] [] := by
  refine lp_ind (P := fun (s : Mm × Int32 × Int32) (r : Mm) => sW X 6 cs r 134 [none, none, none, none, none, none] [] → sW X 6 cs s.1 86 [some (.ref (sad X 87)), some (.int l1), some (.ref (sad X k2)), none, some (.int s.2.1), some (.int s.2.2)] []) ?_
  intro rec hrec s r h0 hk
  obtain ⟨σ, x4, x5⟩ := s
  have h : gX1_findLiveIn_86 l1 k2 rec σ x4 x5 = some r := h0
  unfold gX1_findLiveIn_86 at h
  show sW X 6 cs σ 86 [some (.ref (sad X 87)), some (.int l1), some (.ref (sad X k2)), none, some (.int x4), some (.int x5)] []
  refine s_iload hX dX1_findLiveIn_86 rfl ?_
  refine s_if_lt (tgt := 134) hX dX1_findLiveIn_88 (by decide) (fun c7 => ?_) (fun c7 => ?_)
  · replace h := (if_pos c7).symm.trans h
    obtain rfl := rt1 h
    refine s_mask [false, false, false, false, false, false] ?_
    exact hk
  · replace h := (if_neg c7).symm.trans h
    refine s_iload hX dX1_findLiveIn_91 rfl ?_
    refine s_iconst 1 hX dX1_findLiveIn_93 (by decide) ?_
    refine s_aload_n hX dX1_findLiveIn_94 rfl ?_
    refine s_getR (r := k2 + 2) hX fo_RX1_81_0 (isB_0 hB2) rfl dX1_findLiveIn_95 ?_
    refine s_iload hX dX1_findLiveIn_98 rfl ?_
    obtain ⟨c1, h⟩ := gd_some h
    refine s_iald hX (isB_r hB2).2.1 c1 dX1_findLiveIn_100 ?_
    refine s_ishl hX dX1_findLiveIn_101 ?_
    refine s_iconst (-1) hX dX1_findLiveIn_102 (by decide) ?_
    refine s_ixor hX dX1_findLiveIn_103 ?_
    refine s_iand hX dX1_findLiveIn_104 ?_
    refine s_aload_n hX dX1_findLiveIn_105 rfl ?_
    refine s_iload hX dX1_findLiveIn_106 rfl ?_
    obtain ⟨r2, hc, h⟩ := bn_some h
    refine s_callVI _ hX (cX0_usedBy_ok (sl X) hB2 hc) (isB_0 hB2) mv_RX1_84_0 (fun _ => rfl) (by decide) (Nat.le_of_ble_eq_true rfl) hcs dX1_findLiveIn_108 rfl ?_
    refine s_ior hX dX1_findLiveIn_111 ?_
    obtain ⟨v3, ev3, h⟩ := bd_some h
    refine s_topi v3 ev3 ?_
    refine s_istore hX dX1_findLiveIn_112 (by decide) ?_
    refine s_aload_n hX dX1_findLiveIn_114 rfl ?_
    refine s_getR (r := 88) hX fo_RX1_9_1 SH_87 rfl dX1_findLiveIn_115 ?_
    refine s_iload_n hX dX1_findLiveIn_118 rfl ?_
    refine s_bipush 9 hX dX1_findLiveIn_119 (by decide) ?_
    refine s_imul hX dX1_findLiveIn_121 ?_
    refine s_iload hX dX1_findLiveIn_122 rfl ?_
    refine s_iadd hX dX1_findLiveIn_124 ?_
    refine s_iload hX dX1_findLiveIn_125 rfl ?_
    obtain ⟨c4, h⟩ := gd_some h
    obtain ⟨σ5, eσ5, h⟩ := bd_some h
    refine s_iast hX SH_88 c4 dX1_findLiveIn_127 ?_
    refine s_mem σ5 eσ5 ?_
    obtain ⟨v6, ev6, h⟩ := bd_some h
    refine s_iinc v6 hX dX1_findLiveIn_128 rfl (by rw [ev6]; rfl) (by decide) ?_
    refine s_goto (tgt := 86) hX dX1_findLiveIn_131 (by decide) ?_
    refine s_mask [true, true, true, false, true, true] ?_
    exact hrec _ _ h hk
set_option maxHeartbeats 4000000 in
theorem cX1_findLiveIn_ok (l : Launch) {σ : Mm} {l1 : Int32} {σ' : Mm}  (h : fX1_findLiveIn σ l1 = some σ') : cV l yX1_findLiveIn cX1_findLiveIn 6 1 22 (fun ad => [.ref (ad 87), .int l1]) σ σ' := by
  refine c_enterV (fun ad => [some (.ref (ad 87)), some (.int l1), none, none, none, none]) (by decide) (fun ad => ⟨by simp [Value.category], Nat.le_of_ble_eq_true rfl⟩) (fun ad => ⟨4, rfl⟩) ?_
  intro X _ hX hret
  have hcs : ((0 : Nat), (0 : Nat)).1 ≤ (sR X).cells ∧ ((0 : Nat), (0 : Nat)).2 ≤ (sR X).slots := ⟨Nat.zero_le _, Nat.zero_le _⟩
  generalize hcs0 : ((0 : Nat), (0 : Nat)) = cs at hcs hret ⊢
  unfold fX1_findLiveIn at h
  show sW X 6 cs σ 0 [some (.ref (sad X 87)), some (.int l1), none, none, none, none] []
  refine s_aload_n hX dX1_findLiveIn_0 rfl ?_
  refine s_getR (r := 1) hX fo_RX1_30_1 SH_87 rfl dX1_findLiveIn_1 ?_
  refine s_getR (r := 2) hX fo_RX1_59_6 SH_1 rfl dX1_findLiveIn_4 ?_
  refine s_iload_n hX dX1_findLiveIn_7 rfl ?_
  obtain ⟨c1, h⟩ := gd_some h
  obtain ⟨k2, ek2, h⟩ := bd_some h
  have Bk2 : isB k2 := Or.inl ⟨_, vp_lt c1, ek2⟩
  refine s_aaldP hX c1 dX1_findLiveIn_8 ?_
  refine s_topr k2 ek2 ?_
  refine s_astore_n hX dX1_findLiveIn_9 (by decide) ?_
  refine s_aload_n hX dX1_findLiveIn_10 rfl ?_
  obtain ⟨r3, hc, h⟩ := bn_some h
  refine s_callVI _ hX (cX0_successors_ok (sl X) Bk2 hc) (isB_0 Bk2) mv_RX1_63_0 (fun _ => rfl) (by decide) (Nat.le_of_ble_eq_true rfl) hcs dX1_findLiveIn_11 rfl ?_
  refine s_istore_n hX dX1_findLiveIn_14 (by decide) ?_
  refine s_aload_n hX dX1_findLiveIn_15 rfl ?_
  obtain ⟨r4, hc, h⟩ := bn_some h
  refine s_callVI _ hX (cX0_usedByEnd_ok (sl X) Bk2 hc) (isB_0 Bk2) mv_RX1_69_0 (fun _ => rfl) (by decide) (Nat.le_of_ble_eq_true rfl) hcs dX1_findLiveIn_16 rfl ?_
  refine s_istore hX dX1_findLiveIn_19 (by decide) ?_
  refine s_iconst 0 hX dX1_findLiveIn_21 (by decide) ?_
  refine s_istore hX dX1_findLiveIn_22 (by decide) ?_
  obtain ⟨v5, hc, h⟩ := bn_some h
  refine s_mask [true, true, true, true, true, true] ?_
  refine pX1_findLiveIn_24 hX hcs _ _ _ _ Bk2 _ _ _ hc ?_
  refine s_aload_n hX dX1_findLiveIn_62 rfl ?_
  refine s_getR (r := 88) hX fo_RX1_9_1 SH_87 rfl dX1_findLiveIn_63 ?_
  refine s_iload_n hX dX1_findLiveIn_66 rfl ?_
  refine s_bipush 9 hX dX1_findLiveIn_67 (by decide) ?_
  refine s_imul hX dX1_findLiveIn_69 ?_
  refine s_aload_n hX dX1_findLiveIn_70 rfl ?_
  refine s_getI hX fo_RX1_80_0 (isB_0 Bk2) rfl dX1_findLiveIn_71 ?_
  refine s_iadd hX dX1_findLiveIn_74 ?_
  refine s_iload hX dX1_findLiveIn_75 rfl ?_
  obtain ⟨c6, h⟩ := gd_some h
  obtain ⟨σ7, eσ7, h⟩ := bd_some h
  refine s_iast hX SH_88 c6 dX1_findLiveIn_77 ?_
  refine s_mem σ7 eσ7 ?_
  refine s_aload_n hX dX1_findLiveIn_78 rfl ?_
  refine s_getI hX fo_RX1_80_0 (isB_0 Bk2) rfl dX1_findLiveIn_79 ?_
  refine s_iconst 1 hX dX1_findLiveIn_82 (by decide) ?_
  refine s_isub hX dX1_findLiveIn_83 ?_
  obtain ⟨v8, ev8, h⟩ := bd_some h
  refine s_topi v8 ev8 ?_
  refine s_istore hX dX1_findLiveIn_84 (by decide) ?_
  obtain ⟨σ9, hc, h⟩ := bn_some h
  refine s_mask [true, true, true, false, true, true] ?_
  refine pX1_findLiveIn_86 hX hcs _ _ Bk2 _ _ _ hc ?_
  obtain rfl := rt1 h
  exact hret _ _ dX1_findLiveIn_134
def gX1_findLive_31 (l1 : Int32) (rec : Mm × Int32 → Option (Mm)) (σ : Mm) (x2 : Int32) : Option (Mm) :=
  if x2 < 0 then
  some σ
else
  (fX1_findLiveIn σ x2).bind fun σ1 =>
  bd (x2 + (-1)) fun v2 =>
  rec (σ1, v2)
def qX1_findLive_31 (l1 : Int32) : Nat → Mm × Int32 → Option (Mm) := lp (fun rec s => gX1_findLive_31 l1 rec s.1 s.2)
def gX1_findLive_10  (rec : Mm × Int32 → Option (Mm)) (σ : Mm) (x1 : Int32) : Option (Mm) :=
  if (σ 1 2) < x1 then
  some σ
else
  bd ((σ 1 2) - 1) fun v1 =>
  (qX1_findLive_31 x1 FU (σ, v1)).bind fun σ2 =>
  bd (x1 + 1) fun v3 =>
  rec (σ2, v3)
def qX1_findLive_10  : Nat → Mm × Int32 → Option (Mm) := lp (fun rec s => gX1_findLive_10  rec s.1 s.2)
def fX1_findLive (σ : Mm) : Option Mm :=
  (fJ7_fill_53178 σ 88 72 0).bind fun σ1 =>
  (qX1_findLive_10  FU (σ1, 0)).bind fun σ2 =>
  some σ2
set_option maxHeartbeats 4000000 in
theorem pX1_findLive_31 {X : sT} {cs : Nat × Nat} (hX : sX X cX1_findLive RX1 3 2 47) (hcs : cs.1 ≤ (sR X).cells ∧ cs.2 ≤ (sR X).slots) (l1 : Int32)  : ∀ (n : Nat) (s : Mm × Int32) (r : Mm), qX1_findLive_31 l1 n s = some r → sW X 3 cs r 46 [some (.ref (sad X 87)), some (.int l1), none] [] → sW X 3 cs s.1 31 [some (.ref (sad X 87)), some (.int l1), some (.int s.2)] [] := by
  refine lp_ind (P := fun (s : Mm × Int32) (r : Mm) => sW X 3 cs r 46 [some (.ref (sad X 87)), some (.int l1), none] [] → sW X 3 cs s.1 31 [some (.ref (sad X 87)), some (.int l1), some (.int s.2)] []) ?_
  intro rec hrec s r h0 hk
  obtain ⟨σ, x2⟩ := s
  have h : gX1_findLive_31 l1 rec σ x2 = some r := h0
  unfold gX1_findLive_31 at h
  show sW X 3 cs σ 31 [some (.ref (sad X 87)), some (.int l1), some (.int x2)] []
  refine s_iload_n hX dX1_findLive_31 rfl ?_
  refine s_if_lt (tgt := 46) hX dX1_findLive_32 (by decide) (fun c3 => ?_) (fun c3 => ?_)
  · replace h := (if_pos c3).symm.trans h
    obtain rfl := rt1 h
    refine s_mask [true, true, false] ?_
    exact hk
  · replace h := (if_neg c3).symm.trans h
    refine s_aload_n hX dX1_findLive_35 rfl ?_
    refine s_iload_n hX dX1_findLive_36 rfl ?_
    obtain ⟨σ1, hc, h⟩ := bn_some h
    refine s_callVV _ hX (cX1_findLiveIn_ok (sl X)  hc) SH_87 mv_RX1_55_1 (fun _ => rfl) (by decide) (Nat.le_of_ble_eq_true rfl) hcs dX1_findLive_37 rfl ?_
    obtain ⟨v2, ev2, h⟩ := bd_some h
    refine s_iinc v2 hX dX1_findLive_40 rfl (by rw [ev2]; rfl) (by decide) ?_
    refine s_goto (tgt := 31) hX dX1_findLive_43 (by decide) ?_
    refine s_mask [true, true, true] ?_
    exact hrec _ _ h hk
set_option maxHeartbeats 4000000 in
theorem pX1_findLive_10 {X : sT} {cs : Nat × Nat} (hX : sX X cX1_findLive RX1 3 2 47) (hcs : cs.1 ≤ (sR X).cells ∧ cs.2 ≤ (sR X).slots)   : ∀ (n : Nat) (s : Mm × Int32) (r : Mm), qX1_findLive_10  n s = some r → sW X 3 cs r 52 [none, none, none] [] → sW X 3 cs s.1 10 [some (.ref (sad X 87)), some (.int s.2), none] [] := by
  refine lp_ind (P := fun (s : Mm × Int32) (r : Mm) => sW X 3 cs r 52 [none, none, none] [] → sW X 3 cs s.1 10 [some (.ref (sad X 87)), some (.int s.2), none] []) ?_
  intro rec hrec s r h0 hk
  obtain ⟨σ, x1⟩ := s
  have h : gX1_findLive_10  rec σ x1 = some r := h0
  unfold gX1_findLive_10 at h
  show sW X 3 cs σ 10 [some (.ref (sad X 87)), some (.int x1), none] []
  refine s_iload_n hX dX1_findLive_10 rfl ?_
  refine s_aload_n hX dX1_findLive_11 rfl ?_
  refine s_getR (r := 1) hX fo_RX1_30_1 SH_87 rfl dX1_findLive_12 ?_
  refine s_getI hX fo_RX1_49_6 SH_1 rfl dX1_findLive_15 ?_
  refine s_ic_gt (tgt := 52) hX dX1_findLive_18 (by decide) (fun c4 => ?_) (fun c4 => ?_)
  · replace h := (if_pos c4).symm.trans h
    obtain rfl := rt1 h
    refine s_mask [false, false, false] ?_
    exact hk
  · replace h := (if_neg c4).symm.trans h
    refine s_aload_n hX dX1_findLive_21 rfl ?_
    refine s_getR (r := 1) hX fo_RX1_30_1 SH_87 rfl dX1_findLive_22 ?_
    refine s_getI hX fo_RX1_49_6 SH_1 rfl dX1_findLive_25 ?_
    refine s_iconst 1 hX dX1_findLive_28 (by decide) ?_
    refine s_isub hX dX1_findLive_29 ?_
    obtain ⟨v1, ev1, h⟩ := bd_some h
    refine s_topi v1 ev1 ?_
    refine s_istore_n hX dX1_findLive_30 (by decide) ?_
    obtain ⟨σ2, hc, h⟩ := bn_some h
    refine s_mask [true, true, true] ?_
    refine pX1_findLive_31 hX hcs _ _ _ _ hc ?_
    obtain ⟨v3, ev3, h⟩ := bd_some h
    refine s_iinc v3 hX dX1_findLive_46 rfl (by rw [ev3]; rfl) (by decide) ?_
    refine s_goto (tgt := 10) hX dX1_findLive_49 (by decide) ?_
    refine s_mask [true, true, false] ?_
    exact hrec _ _ h hk
set_option maxHeartbeats 4000000 in
theorem cX1_findLive_ok (l : Launch) {σ : Mm} {σ' : Mm}  (h : fX1_findLive σ = some σ') : cV l yX1_findLive cX1_findLive 3 2 47 (fun ad => [.ref (ad 87)]) σ σ' := by
  refine c_enterV (fun ad => [some (.ref (ad 87)), none, none]) (by decide) (fun ad => ⟨by simp [Value.category], Nat.le_of_ble_eq_true rfl⟩) (fun ad => ⟨2, rfl⟩) ?_
  intro X _ hX hret
  have hcs : ((0 : Nat), (0 : Nat)).1 ≤ (sR X).cells ∧ ((0 : Nat), (0 : Nat)).2 ≤ (sR X).slots := ⟨Nat.zero_le _, Nat.zero_le _⟩
  generalize hcs0 : ((0 : Nat), (0 : Nat)) = cs at hcs hret ⊢
  unfold fX1_findLive at h
  show sW X 3 cs σ 0 [some (.ref (sad X 87)), none, none] []
  refine s_aload_n hX dX1_findLive_0 rfl ?_
  refine s_getR (r := 88) hX fo_RX1_9_1 SH_87 rfl dX1_findLive_1 ?_
  refine s_iconst 0 hX dX1_findLive_4 (by decide) ?_
  obtain ⟨σ1, hc, h⟩ := bn_some h
  refine s_callSV _ hX (cJ7_fill_53178_ok (sl X) SH_88 hc) ms_RX1_43 (fun _ => rfl) (by decide) (Nat.le_of_ble_eq_true rfl) hcs dX1_findLive_5 rfl ?_
  refine s_iconst 0 hX dX1_findLive_8 (by decide) ?_
  refine s_istore_n hX dX1_findLive_9 (by decide) ?_
  obtain ⟨σ2, hc, h⟩ := bn_some h
  refine s_mask [true, true, false] ?_
  refine pX1_findLive_10 hX hcs  _ _ _ hc ?_
  obtain rfl := rt1 h
  exact hret _ _ dX1_findLive_52
def gX1_countSet_2 (l1 : Int32) (l2 : Int32) (rec : Mm × Int32 → Option (Mm)) (σ : Mm) (x3 : Int32) : Option (Mm) :=
  if 12 ≤ x3 then
  some σ
else
  (fX9_has σ l2 x3).bind fun r1 =>
  if r1 = 0 then
  bd (x3 + 1) fun v2 =>
  rec (σ, v2)
else
  bd ((l1 * 12) + x3) fun v3 =>
  gd v3 96 <|
  gd v3 96 <|
  bd (upm σ 89 (upd (σ 89) v3.toNatClampNeg ((σ 89 v3.toNatClampNeg) + 1))) fun σ6 =>
  bd (x3 + 1) fun v7 =>
  rec (σ6, v7)
def qX1_countSet_2 (l1 : Int32) (l2 : Int32) : Nat → Mm × Int32 → Option (Mm) := lp (fun rec s => gX1_countSet_2 l1 l2 rec s.1 s.2)
def fX1_countSet (σ : Mm) (l1 : Int32) (l2 : Int32) : Option Mm :=
  (qX1_countSet_2 l1 l2 FU (σ, 0)).bind fun σ1 =>
  some σ1
set_option maxHeartbeats 4000000 in
theorem pX1_countSet_2 {X : sT} {cs : Nat × Nat} (hX : sX X cX1_countSet RX1 4 1 21) (hcs : cs.1 ≤ (sR X).cells ∧ cs.2 ≤ (sR X).slots) (l1 : Int32) (l2 : Int32)  : ∀ (n : Nat) (s : Mm × Int32) (r : Mm), qX1_countSet_2 l1 l2 n s = some r → sW X 4 cs r 37 [none, none, none, none] [] → sW X 4 cs s.1 2 [some (.ref (sad X 87)), some (.int l1), some (.int l2), some (.int s.2)] [] := by
  refine lp_ind (P := fun (s : Mm × Int32) (r : Mm) => sW X 4 cs r 37 [none, none, none, none] [] → sW X 4 cs s.1 2 [some (.ref (sad X 87)), some (.int l1), some (.int l2), some (.int s.2)] []) ?_
  intro rec hrec s r h0 hk
  obtain ⟨σ, x3⟩ := s
  have h : gX1_countSet_2 l1 l2 rec σ x3 = some r := h0
  unfold gX1_countSet_2 at h
  show sW X 4 cs σ 2 [some (.ref (sad X 87)), some (.int l1), some (.int l2), some (.int x3)] []
  refine s_iload_n hX dX1_countSet_2 rfl ?_
  refine s_bipush 12 hX dX1_countSet_3 (by decide) ?_
  refine s_ic_ge (tgt := 37) hX dX1_countSet_5 (by decide) (fun c9 => ?_) (fun c9 => ?_)
  · replace h := (if_pos c9).symm.trans h
    obtain rfl := rt1 h
    refine s_mask [false, false, false, false] ?_
    exact hk
  · replace h := (if_neg c9).symm.trans h
    refine s_iload_n hX dX1_countSet_8 rfl ?_
    refine s_iload_n hX dX1_countSet_9 rfl ?_
    obtain ⟨r1, hc, h⟩ := bn_some h
    refine s_callSI _ hX (cX9_has_ok (sl X)  hc) ms_RX1_72 (fun _ => rfl) (by decide) (Nat.le_of_ble_eq_true rfl) hcs dX1_countSet_10 rfl ?_
    refine s_if_eq (tgt := 31) hX dX1_countSet_13 (by decide) (fun c8 => ?_) (fun c8 => ?_)
    · replace h := (if_pos c8).symm.trans h
      obtain ⟨v2, ev2, h⟩ := bd_some h
      refine s_iinc v2 hX dX1_countSet_31 rfl (by rw [ev2]; rfl) (by decide) ?_
      refine s_goto (tgt := 2) hX dX1_countSet_34 (by decide) ?_
      refine s_mask [true, true, true, true] ?_
      exact hrec _ _ h hk
    · replace h := (if_neg c8).symm.trans h
      refine s_aload_n hX dX1_countSet_16 rfl ?_
      refine s_getR (r := 89) hX fo_RX1_15_1 SH_87 rfl dX1_countSet_17 ?_
      refine s_iload_n hX dX1_countSet_20 rfl ?_
      refine s_bipush 12 hX dX1_countSet_21 (by decide) ?_
      refine s_imul hX dX1_countSet_23 ?_
      refine s_iload_n hX dX1_countSet_24 rfl ?_
      refine s_iadd hX dX1_countSet_25 ?_
      obtain ⟨v3, ev3, h⟩ := bd_some h
      refine s_topi v3 ev3 ?_
      refine s_dup2 hX dX1_countSet_26 rfl rfl ?_
      obtain ⟨c4, h⟩ := gd_some h
      refine s_iald hX SH_89 c4 dX1_countSet_27 ?_
      refine s_iconst 1 hX dX1_countSet_28 (by decide) ?_
      refine s_iadd hX dX1_countSet_29 ?_
      obtain ⟨c5, h⟩ := gd_some h
      obtain ⟨σ6, eσ6, h⟩ := bd_some h
      refine s_iast hX SH_89 c5 dX1_countSet_30 ?_
      refine s_mem σ6 eσ6 ?_
      obtain ⟨v7, ev7, h⟩ := bd_some h
      refine s_iinc v7 hX dX1_countSet_31 rfl (by rw [ev7]; rfl) (by decide) ?_
      refine s_goto (tgt := 2) hX dX1_countSet_34 (by decide) ?_
      refine s_mask [true, true, true, true] ?_
      exact hrec _ _ h hk
set_option maxHeartbeats 4000000 in
theorem cX1_countSet_ok (l : Launch) {σ : Mm} {l1 : Int32} {l2 : Int32} {σ' : Mm}  (h : fX1_countSet σ l1 l2 = some σ') : cV l yX1_countSet cX1_countSet 4 1 21 (fun ad => [.ref (ad 87), .int l1, .int l2]) σ σ' := by
  refine c_enterV (fun ad => [some (.ref (ad 87)), some (.int l1), some (.int l2), none]) (by decide) (fun ad => ⟨by simp [Value.category], Nat.le_of_ble_eq_true rfl⟩) (fun ad => ⟨1, rfl⟩) ?_
  intro X _ hX hret
  have hcs : ((0 : Nat), (0 : Nat)).1 ≤ (sR X).cells ∧ ((0 : Nat), (0 : Nat)).2 ≤ (sR X).slots := ⟨Nat.zero_le _, Nat.zero_le _⟩
  generalize hcs0 : ((0 : Nat), (0 : Nat)) = cs at hcs hret ⊢
  unfold fX1_countSet at h
  show sW X 4 cs σ 0 [some (.ref (sad X 87)), some (.int l1), some (.int l2), none] []
  refine s_iconst 0 hX dX1_countSet_0 (by decide) ?_
  refine s_istore_n hX dX1_countSet_1 (by decide) ?_
  obtain ⟨σ1, hc, h⟩ := bn_some h
  refine s_mask [true, true, true, true] ?_
  refine pX1_countSet_2 hX hcs _ _ _ _ _ hc ?_
  obtain rfl := rt1 h
  exact hret _ _ dX1_countSet_37
def gX1_countUses_49 (l1 : Int32) (k2 : Nat) (rec : Mm × Int32 → Option (Mm)) (σ : Mm) (x3 : Int32) : Option (Mm) :=
  if (σ k2 4) ≤ x3 then
  some σ
else
  gd x3 8 <|
  bd (σ (k2 + 2) x3.toNatClampNeg) fun v2 =>
  (fX0_usedBy σ k2 x3).bind fun r3 =>
  (fX1_countSet σ l1 r3).bind fun σ4 =>
  bd ((l1 * 12) + v2) fun v5 =>
  gd v5 96 <|
  gd v5 96 <|
  bd (upm σ4 90 (upd (σ4 90) v5.toNatClampNeg ((σ4 90 v5.toNatClampNeg) + 1))) fun σ8 =>
  gd x3 8 <|
  if (σ8 (k2 + 1) x3.toNatClampNeg) = 0 then
  gd v2 12 <|
  gd v2 12 <|
  bd (upm σ8 92 (upd (σ8 92) v2.toNatClampNeg ((σ8 92 v2.toNatClampNeg) + 1))) fun σ13 =>
  gd x3 8 <|
  gd v2 12 <|
  bd (upm σ13 93 (upd (σ13 93) v2.toNatClampNeg (σ13 (k2 + 3) x3.toNatClampNeg))) fun σ16 =>
  bd (x3 + 1) fun v17 =>
  rec (σ16, v17)
else
  bd (x3 + 1) fun v10 =>
  rec (σ8, v10)
def qX1_countUses_49 (l1 : Int32) (k2 : Nat) : Nat → Mm × Int32 → Option (Mm) := lp (fun rec s => gX1_countUses_49 l1 k2 rec s.1 s.2)
def gX1_countUses_26  (rec : Mm × Int32 → Option (Mm)) (σ : Mm) (x1 : Int32) : Option (Mm) :=
  if (σ 1 2) ≤ x1 then
  some σ
else
  gd x1 8 <|
  bd (4 + 5 * x1.toNatClampNeg) fun k2 =>
  (qX1_countUses_49 x1 k2 FU (σ, 0)).bind fun σ3 =>
  (fX0_usedByEnd σ3 k2).bind fun r4 =>
  (fX1_countSet σ3 x1 r4).bind fun σ5 =>
  bd (x1 + 1) fun v6 =>
  rec (σ5, v6)
def qX1_countUses_26  : Nat → Mm × Int32 → Option (Mm) := lp (fun rec s => gX1_countUses_26  rec s.1 s.2)
def fX1_countUses (σ : Mm) : Option Mm :=
  (fJ7_fill_53178 σ 89 96 0).bind fun σ1 =>
  (fJ7_fill_53178 σ1 90 96 0).bind fun σ2 =>
  (fJ7_fill_53178 σ2 92 12 0).bind fun σ3 =>
  (qX1_countUses_26  FU (σ3, 0)).bind fun σ4 =>
  some σ4
set_option maxHeartbeats 4000000 in
theorem pX1_countUses_49 {X : sT} {cs : Nat × Nat} (hX : sX X cX1_countUses RX1 5 2 44) (hcs : cs.1 ≤ (sR X).cells ∧ cs.2 ≤ (sR X).slots) (l1 : Int32) (k2 : Nat) (hB2 : isB k2) : ∀ (n : Nat) (s : Mm × Int32) (r : Mm), qX1_countUses_49 l1 k2 n s = some r → sW X 5 cs r 130 [some (.ref (sad X 87)), some (.int l1), some (.ref (sad X k2)), none, none] [] → sW X 5 cs s.1 49 [some (.ref (sad X 87)), some (.int l1), some (.ref (sad X k2)), some (.int s.2), none] [] := by
  refine lp_ind (P := fun (s : Mm × Int32) (r : Mm) => sW X 5 cs r 130 [some (.ref (sad X 87)), some (.int l1), some (.ref (sad X k2)), none, none] [] → sW X 5 cs s.1 49 [some (.ref (sad X 87)), some (.int l1), some (.ref (sad X k2)), some (.int s.2), none] []) ?_
  intro rec hrec s r h0 hk
  obtain ⟨σ, x3⟩ := s
  have h : gX1_countUses_49 l1 k2 rec σ x3 = some r := h0
  unfold gX1_countUses_49 at h
  show sW X 5 cs σ 49 [some (.ref (sad X 87)), some (.int l1), some (.ref (sad X k2)), some (.int x3), none] []
  refine s_iload_n hX dX1_countUses_49 rfl ?_
  refine s_aload_n hX dX1_countUses_50 rfl ?_
  refine s_getI hX fo_RX1_80_0 (isB_0 hB2) rfl dX1_countUses_51 ?_
  refine s_ic_ge (tgt := 130) hX dX1_countUses_54 (by decide) (fun c19 => ?_) (fun c19 => ?_)
  · replace h := (if_pos c19).symm.trans h
    obtain rfl := rt1 h
    refine s_mask [true, true, true, false, false] ?_
    exact hk
  · replace h := (if_neg c19).symm.trans h
    refine s_aload_n hX dX1_countUses_57 rfl ?_
    refine s_getR (r := k2 + 2) hX fo_RX1_81_0 (isB_0 hB2) rfl dX1_countUses_58 ?_
    refine s_iload_n hX dX1_countUses_61 rfl ?_
    obtain ⟨c1, h⟩ := gd_some h
    refine s_iald hX (isB_r hB2).2.1 c1 dX1_countUses_62 ?_
    obtain ⟨v2, ev2, h⟩ := bd_some h
    refine s_topi v2 ev2 ?_
    refine s_istore hX dX1_countUses_63 (by decide) ?_
    refine s_aload_n hX dX1_countUses_65 rfl ?_
    refine s_iload_n hX dX1_countUses_66 rfl ?_
    refine s_aload_n hX dX1_countUses_67 rfl ?_
    refine s_iload_n hX dX1_countUses_68 rfl ?_
    obtain ⟨r3, hc, h⟩ := bn_some h
    refine s_callVI _ hX (cX0_usedBy_ok (sl X) hB2 hc) (isB_0 hB2) mv_RX1_84_0 (fun _ => rfl) (by decide) (Nat.le_of_ble_eq_true rfl) hcs dX1_countUses_69 rfl ?_
    obtain ⟨σ4, hc, h⟩ := bn_some h
    refine s_callVV _ hX (cX1_countSet_ok (sl X)  hc) SH_87 mv_RX1_87_1 (fun _ => rfl) (by decide) (Nat.le_of_ble_eq_true rfl) hcs dX1_countUses_72 rfl ?_
    refine s_aload_n hX dX1_countUses_75 rfl ?_
    refine s_getR (r := 90) hX fo_RX1_18_1 SH_87 rfl dX1_countUses_76 ?_
    refine s_iload_n hX dX1_countUses_79 rfl ?_
    refine s_bipush 12 hX dX1_countUses_80 (by decide) ?_
    refine s_imul hX dX1_countUses_82 ?_
    refine s_iload hX dX1_countUses_83 rfl ?_
    refine s_iadd hX dX1_countUses_85 ?_
    obtain ⟨v5, ev5, h⟩ := bd_some h
    refine s_topi v5 ev5 ?_
    refine s_dup2 hX dX1_countUses_86 rfl rfl ?_
    obtain ⟨c6, h⟩ := gd_some h
    refine s_iald hX SH_90 c6 dX1_countUses_87 ?_
    refine s_iconst 1 hX dX1_countUses_88 (by decide) ?_
    refine s_iadd hX dX1_countUses_89 ?_
    obtain ⟨c7, h⟩ := gd_some h
    obtain ⟨σ8, eσ8, h⟩ := bd_some h
    refine s_iast hX SH_90 c7 dX1_countUses_90 ?_
    refine s_mem σ8 eσ8 ?_
    refine s_aload_n hX dX1_countUses_91 rfl ?_
    refine s_getR (r := k2 + 1) hX fo_RX1_91_0 (isB_0 hB2) rfl dX1_countUses_92 ?_
    refine s_iload_n hX dX1_countUses_95 rfl ?_
    obtain ⟨c9, h⟩ := gd_some h
    refine s_iald hX (isB_r hB2).1 c9 dX1_countUses_96 ?_
    refine s_if_ne (tgt := 124) hX dX1_countUses_97 (by decide) (fun c18 => ?_) (fun c18 => ?_)
    · replace h := (if_neg c18).symm.trans h
      obtain ⟨v10, ev10, h⟩ := bd_some h
      refine s_iinc v10 hX dX1_countUses_124 rfl (by rw [ev10]; rfl) (by decide) ?_
      refine s_goto (tgt := 49) hX dX1_countUses_127 (by decide) ?_
      refine s_mask [true, true, true, true, false] ?_
      exact hrec _ _ h hk
    · replace h := (if_pos c18).symm.trans h
      refine s_aload_n hX dX1_countUses_100 rfl ?_
      refine s_getR (r := 92) hX fo_RX1_24_1 SH_87 rfl dX1_countUses_101 ?_
      refine s_iload hX dX1_countUses_104 rfl ?_
      refine s_dup2 hX dX1_countUses_106 rfl rfl ?_
      obtain ⟨c11, h⟩ := gd_some h
      refine s_iald hX SH_92 c11 dX1_countUses_107 ?_
      refine s_iconst 1 hX dX1_countUses_108 (by decide) ?_
      refine s_iadd hX dX1_countUses_109 ?_
      obtain ⟨c12, h⟩ := gd_some h
      obtain ⟨σ13, eσ13, h⟩ := bd_some h
      refine s_iast hX SH_92 c12 dX1_countUses_110 ?_
      refine s_mem σ13 eσ13 ?_
      refine s_aload_n hX dX1_countUses_111 rfl ?_
      refine s_getR (r := 93) hX fo_RX1_27_1 SH_87 rfl dX1_countUses_112 ?_
      refine s_iload hX dX1_countUses_115 rfl ?_
      refine s_aload_n hX dX1_countUses_117 rfl ?_
      refine s_getR (r := k2 + 3) hX fo_RX1_94_0 (isB_0 hB2) rfl dX1_countUses_118 ?_
      refine s_iload_n hX dX1_countUses_121 rfl ?_
      obtain ⟨c14, h⟩ := gd_some h
      refine s_iald hX (isB_r hB2).2.2.1 c14 dX1_countUses_122 ?_
      obtain ⟨c15, h⟩ := gd_some h
      obtain ⟨σ16, eσ16, h⟩ := bd_some h
      refine s_iast hX SH_93 c15 dX1_countUses_123 ?_
      refine s_mem σ16 eσ16 ?_
      obtain ⟨v17, ev17, h⟩ := bd_some h
      refine s_iinc v17 hX dX1_countUses_124 rfl (by rw [ev17]; rfl) (by decide) ?_
      refine s_goto (tgt := 49) hX dX1_countUses_127 (by decide) ?_
      refine s_mask [true, true, true, true, false] ?_
      exact hrec _ _ h hk
set_option maxHeartbeats 4000000 in
theorem pX1_countUses_26 {X : sT} {cs : Nat × Nat} (hX : sX X cX1_countUses RX1 5 2 44) (hcs : cs.1 ≤ (sR X).cells ∧ cs.2 ≤ (sR X).slots)   : ∀ (n : Nat) (s : Mm × Int32) (r : Mm), qX1_countUses_26  n s = some r → sW X 5 cs r 145 [none, none, none, none, none] [] → sW X 5 cs s.1 26 [some (.ref (sad X 87)), some (.int s.2), none, none, none] [] := by
  refine lp_ind (P := fun (s : Mm × Int32) (r : Mm) => sW X 5 cs r 145 [none, none, none, none, none] [] → sW X 5 cs s.1 26 [some (.ref (sad X 87)), some (.int s.2), none, none, none] []) ?_
  intro rec hrec s r h0 hk
  obtain ⟨σ, x1⟩ := s
  have h : gX1_countUses_26  rec σ x1 = some r := h0
  unfold gX1_countUses_26 at h
  show sW X 5 cs σ 26 [some (.ref (sad X 87)), some (.int x1), none, none, none] []
  refine s_iload_n hX dX1_countUses_26 rfl ?_
  refine s_aload_n hX dX1_countUses_27 rfl ?_
  refine s_getR (r := 1) hX fo_RX1_30_1 SH_87 rfl dX1_countUses_28 ?_
  refine s_getI hX fo_RX1_49_6 SH_1 rfl dX1_countUses_31 ?_
  refine s_ic_ge (tgt := 145) hX dX1_countUses_34 (by decide) (fun c7 => ?_) (fun c7 => ?_)
  · replace h := (if_pos c7).symm.trans h
    obtain rfl := rt1 h
    refine s_mask [false, false, false, false, false] ?_
    exact hk
  · replace h := (if_neg c7).symm.trans h
    refine s_aload_n hX dX1_countUses_37 rfl ?_
    refine s_getR (r := 1) hX fo_RX1_30_1 SH_87 rfl dX1_countUses_38 ?_
    refine s_getR (r := 2) hX fo_RX1_59_6 SH_1 rfl dX1_countUses_41 ?_
    refine s_iload_n hX dX1_countUses_44 rfl ?_
    obtain ⟨c1, h⟩ := gd_some h
    obtain ⟨k2, ek2, h⟩ := bd_some h
    have Bk2 : isB k2 := Or.inl ⟨_, vp_lt c1, ek2⟩
    refine s_aaldP hX c1 dX1_countUses_45 ?_
    refine s_topr k2 ek2 ?_
    refine s_astore_n hX dX1_countUses_46 (by decide) ?_
    refine s_iconst 0 hX dX1_countUses_47 (by decide) ?_
    refine s_istore_n hX dX1_countUses_48 (by decide) ?_
    obtain ⟨σ3, hc, h⟩ := bn_some h
    refine s_mask [true, true, true, true, false] ?_
    refine pX1_countUses_49 hX hcs _ _ Bk2 _ _ _ hc ?_
    refine s_aload_n hX dX1_countUses_130 rfl ?_
    refine s_iload_n hX dX1_countUses_131 rfl ?_
    refine s_aload_n hX dX1_countUses_132 rfl ?_
    obtain ⟨r4, hc, h⟩ := bn_some h
    refine s_callVI _ hX (cX0_usedByEnd_ok (sl X) Bk2 hc) (isB_0 Bk2) mv_RX1_69_0 (fun _ => rfl) (by decide) (Nat.le_of_ble_eq_true rfl) hcs dX1_countUses_133 rfl ?_
    obtain ⟨σ5, hc, h⟩ := bn_some h
    refine s_callVV _ hX (cX1_countSet_ok (sl X)  hc) SH_87 mv_RX1_87_1 (fun _ => rfl) (by decide) (Nat.le_of_ble_eq_true rfl) hcs dX1_countUses_136 rfl ?_
    obtain ⟨v6, ev6, h⟩ := bd_some h
    refine s_iinc v6 hX dX1_countUses_139 rfl (by rw [ev6]; rfl) (by decide) ?_
    refine s_goto (tgt := 26) hX dX1_countUses_142 (by decide) ?_
    refine s_mask [true, true, false, false, false] ?_
    exact hrec _ _ h hk
set_option maxHeartbeats 4000000 in
theorem cX1_countUses_ok (l : Launch) {σ : Mm} {σ' : Mm}  (h : fX1_countUses σ = some σ') : cV l yX1_countUses cX1_countUses 5 2 44 (fun ad => [.ref (ad 87)]) σ σ' := by
  refine c_enterV (fun ad => [some (.ref (ad 87)), none, none, none, none]) (by decide) (fun ad => ⟨by simp [Value.category], Nat.le_of_ble_eq_true rfl⟩) (fun ad => ⟨4, rfl⟩) ?_
  intro X _ hX hret
  have hcs : ((0 : Nat), (0 : Nat)).1 ≤ (sR X).cells ∧ ((0 : Nat), (0 : Nat)).2 ≤ (sR X).slots := ⟨Nat.zero_le _, Nat.zero_le _⟩
  generalize hcs0 : ((0 : Nat), (0 : Nat)) = cs at hcs hret ⊢
  unfold fX1_countUses at h
  show sW X 5 cs σ 0 [some (.ref (sad X 87)), none, none, none, none] []
  refine s_aload_n hX dX1_countUses_0 rfl ?_
  refine s_getR (r := 89) hX fo_RX1_15_1 SH_87 rfl dX1_countUses_1 ?_
  refine s_iconst 0 hX dX1_countUses_4 (by decide) ?_
  obtain ⟨σ1, hc, h⟩ := bn_some h
  refine s_callSV _ hX (cJ7_fill_53178_ok (sl X) SH_89 hc) ms_RX1_43 (fun _ => rfl) (by decide) (Nat.le_of_ble_eq_true rfl) hcs dX1_countUses_5 rfl ?_
  refine s_aload_n hX dX1_countUses_8 rfl ?_
  refine s_getR (r := 90) hX fo_RX1_18_1 SH_87 rfl dX1_countUses_9 ?_
  refine s_iconst 0 hX dX1_countUses_12 (by decide) ?_
  obtain ⟨σ2, hc, h⟩ := bn_some h
  refine s_callSV _ hX (cJ7_fill_53178_ok (sl X) SH_90 hc) ms_RX1_43 (fun _ => rfl) (by decide) (Nat.le_of_ble_eq_true rfl) hcs dX1_countUses_13 rfl ?_
  refine s_aload_n hX dX1_countUses_16 rfl ?_
  refine s_getR (r := 92) hX fo_RX1_24_1 SH_87 rfl dX1_countUses_17 ?_
  refine s_iconst 0 hX dX1_countUses_20 (by decide) ?_
  obtain ⟨σ3, hc, h⟩ := bn_some h
  refine s_callSV _ hX (cJ7_fill_53178_ok (sl X) SH_92 hc) ms_RX1_43 (fun _ => rfl) (by decide) (Nat.le_of_ble_eq_true rfl) hcs dX1_countUses_21 rfl ?_
  refine s_iconst 0 hX dX1_countUses_24 (by decide) ?_
  refine s_istore_n hX dX1_countUses_25 (by decide) ?_
  obtain ⟨σ4, hc, h⟩ := bn_some h
  refine s_mask [true, true, false, false, false] ?_
  refine pX1_countUses_26 hX hcs  _ _ _ hc ?_
  obtain rfl := rt1 h
  exact hret _ _ dX1_countUses_145
def gX1_addRivals_21 (l1 : Int32) (l3 : Int32) (rec : Mm × Int32 → Option (Mm)) (σ : Mm) (x4 : Int32) : Option (Mm) :=
  if 12 ≤ x4 then
  some σ
else
  (fX9_has σ l3 x4).bind fun r1 =>
  if r1 = 0 then
  bd (x4 + 1) fun v2 =>
  rec (σ, v2)
else
  gd x4 12 <|
  gd x4 12 <|
  bd (upm σ 91 (upd (σ 91) x4.toNatClampNeg ((σ 91 x4.toNatClampNeg) ||| (1 <<< (l1 &&& 31))))) fun σ5 =>
  bd (x4 + 1) fun v6 =>
  rec (σ5, v6)
def qX1_addRivals_21 (l1 : Int32) (l3 : Int32) : Nat → Mm × Int32 → Option (Mm) := lp (fun rec s => gX1_addRivals_21 l1 l3 rec s.1 s.2)
def fX1_addRivals (σ : Mm) (l1 : Int32) (l2 : Int32) : Option Mm :=
  bd (l2 &&& ((1 <<< (l1 &&& 31)) ^^^ (-1))) fun v1 =>
  gd l1 12 <|
  gd l1 12 <|
  bd (upm σ 91 (upd (σ 91) l1.toNatClampNeg ((σ 91 l1.toNatClampNeg) ||| v1))) fun σ4 =>
  (qX1_addRivals_21 l1 v1 FU (σ4, 0)).bind fun σ5 =>
  some σ5
set_option maxHeartbeats 4000000 in
theorem pX1_addRivals_21 {X : sT} {cs : Nat × Nat} (hX : sX X cX1_addRivals RX1 5 1 21) (hcs : cs.1 ≤ (sR X).cells ∧ cs.2 ≤ (sR X).slots) (l1 : Int32) (l3 : Int32)  : ∀ (n : Nat) (s : Mm × Int32) (r : Mm), qX1_addRivals_21 l1 l3 n s = some r → sW X 5 cs r 56 [none, none, none, none, none] [] → sW X 5 cs s.1 21 [some (.ref (sad X 87)), some (.int l1), none, some (.int l3), some (.int s.2)] [] := by
  refine lp_ind (P := fun (s : Mm × Int32) (r : Mm) => sW X 5 cs r 56 [none, none, none, none, none] [] → sW X 5 cs s.1 21 [some (.ref (sad X 87)), some (.int l1), none, some (.int l3), some (.int s.2)] []) ?_
  intro rec hrec s r h0 hk
  obtain ⟨σ, x4⟩ := s
  have h : gX1_addRivals_21 l1 l3 rec σ x4 = some r := h0
  unfold gX1_addRivals_21 at h
  show sW X 5 cs σ 21 [some (.ref (sad X 87)), some (.int l1), none, some (.int l3), some (.int x4)] []
  refine s_iload hX dX1_addRivals_21 rfl ?_
  refine s_bipush 12 hX dX1_addRivals_23 (by decide) ?_
  refine s_ic_ge (tgt := 56) hX dX1_addRivals_25 (by decide) (fun c8 => ?_) (fun c8 => ?_)
  · replace h := (if_pos c8).symm.trans h
    obtain rfl := rt1 h
    refine s_mask [false, false, false, false, false] ?_
    exact hk
  · replace h := (if_neg c8).symm.trans h
    refine s_iload_n hX dX1_addRivals_28 rfl ?_
    refine s_iload hX dX1_addRivals_29 rfl ?_
    obtain ⟨r1, hc, h⟩ := bn_some h
    refine s_callSI _ hX (cX9_has_ok (sl X)  hc) ms_RX1_72 (fun _ => rfl) (by decide) (Nat.le_of_ble_eq_true rfl) hcs dX1_addRivals_31 rfl ?_
    refine s_if_eq (tgt := 50) hX dX1_addRivals_34 (by decide) (fun c7 => ?_) (fun c7 => ?_)
    · replace h := (if_pos c7).symm.trans h
      obtain ⟨v2, ev2, h⟩ := bd_some h
      refine s_iinc v2 hX dX1_addRivals_50 rfl (by rw [ev2]; rfl) (by decide) ?_
      refine s_goto (tgt := 21) hX dX1_addRivals_53 (by decide) ?_
      refine s_mask [true, true, false, true, true] ?_
      exact hrec _ _ h hk
    · replace h := (if_neg c7).symm.trans h
      refine s_aload_n hX dX1_addRivals_37 rfl ?_
      refine s_getR (r := 91) hX fo_RX1_21_1 SH_87 rfl dX1_addRivals_38 ?_
      refine s_iload hX dX1_addRivals_41 rfl ?_
      refine s_dup2 hX dX1_addRivals_43 rfl rfl ?_
      obtain ⟨c3, h⟩ := gd_some h
      refine s_iald hX SH_91 c3 dX1_addRivals_44 ?_
      refine s_iconst 1 hX dX1_addRivals_45 (by decide) ?_
      refine s_iload_n hX dX1_addRivals_46 rfl ?_
      refine s_ishl hX dX1_addRivals_47 ?_
      refine s_ior hX dX1_addRivals_48 ?_
      obtain ⟨c4, h⟩ := gd_some h
      obtain ⟨σ5, eσ5, h⟩ := bd_some h
      refine s_iast hX SH_91 c4 dX1_addRivals_49 ?_
      refine s_mem σ5 eσ5 ?_
      obtain ⟨v6, ev6, h⟩ := bd_some h
      refine s_iinc v6 hX dX1_addRivals_50 rfl (by rw [ev6]; rfl) (by decide) ?_
      refine s_goto (tgt := 21) hX dX1_addRivals_53 (by decide) ?_
      refine s_mask [true, true, false, true, true] ?_
      exact hrec _ _ h hk
set_option maxHeartbeats 4000000 in
theorem cX1_addRivals_ok (l : Launch) {σ : Mm} {l1 : Int32} {l2 : Int32} {σ' : Mm}  (h : fX1_addRivals σ l1 l2 = some σ') : cV l yX1_addRivals cX1_addRivals 5 1 21 (fun ad => [.ref (ad 87), .int l1, .int l2]) σ σ' := by
  refine c_enterV (fun ad => [some (.ref (ad 87)), some (.int l1), some (.int l2), none, none]) (by decide) (fun ad => ⟨by simp [Value.category], Nat.le_of_ble_eq_true rfl⟩) (fun ad => ⟨2, rfl⟩) ?_
  intro X _ hX hret
  have hcs : ((0 : Nat), (0 : Nat)).1 ≤ (sR X).cells ∧ ((0 : Nat), (0 : Nat)).2 ≤ (sR X).slots := ⟨Nat.zero_le _, Nat.zero_le _⟩
  generalize hcs0 : ((0 : Nat), (0 : Nat)) = cs at hcs hret ⊢
  unfold fX1_addRivals at h
  show sW X 5 cs σ 0 [some (.ref (sad X 87)), some (.int l1), some (.int l2), none, none] []
  refine s_iload_n hX dX1_addRivals_0 rfl ?_
  refine s_iconst 1 hX dX1_addRivals_1 (by decide) ?_
  refine s_iload_n hX dX1_addRivals_2 rfl ?_
  refine s_ishl hX dX1_addRivals_3 ?_
  refine s_iconst (-1) hX dX1_addRivals_4 (by decide) ?_
  refine s_ixor hX dX1_addRivals_5 ?_
  refine s_iand hX dX1_addRivals_6 ?_
  obtain ⟨v1, ev1, h⟩ := bd_some h
  refine s_topi v1 ev1 ?_
  refine s_istore_n hX dX1_addRivals_7 (by decide) ?_
  refine s_aload_n hX dX1_addRivals_8 rfl ?_
  refine s_getR (r := 91) hX fo_RX1_21_1 SH_87 rfl dX1_addRivals_9 ?_
  refine s_iload_n hX dX1_addRivals_12 rfl ?_
  refine s_dup2 hX dX1_addRivals_13 rfl rfl ?_
  obtain ⟨c2, h⟩ := gd_some h
  refine s_iald hX SH_91 c2 dX1_addRivals_14 ?_
  refine s_iload_n hX dX1_addRivals_15 rfl ?_
  refine s_ior hX dX1_addRivals_16 ?_
  obtain ⟨c3, h⟩ := gd_some h
  obtain ⟨σ4, eσ4, h⟩ := bd_some h
  refine s_iast hX SH_91 c3 dX1_addRivals_17 ?_
  refine s_mem σ4 eσ4 ?_
  refine s_iconst 0 hX dX1_addRivals_18 (by decide) ?_
  refine s_istore hX dX1_addRivals_19 (by decide) ?_
  obtain ⟨σ5, hc, h⟩ := bn_some h
  refine s_mask [true, true, false, true, true] ?_
  refine pX1_addRivals_21 hX hcs _ _ _ _ _ hc ?_
  obtain rfl := rt1 h
  exact hret _ _ dX1_addRivals_56
