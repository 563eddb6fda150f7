def fX10_thrown (σ : Mm) : Option Int32 :=
  some (σ 123 0)
set_option maxHeartbeats 4000000 in
theorem cX10_thrown_ok (l : Launch) {σ : Mm} {r : Int32}  (h : fX10_thrown σ = some r) : cI l yX10_thrown cX10_thrown 1 .int 0 0 (fun ad => [.ref (ad 123)]) σ r σ := by
  refine c_enterI (fun ad => [some (.ref (ad 123))]) (by decide) (fun ad => ⟨by simp [Value.category], Nat.le_of_ble_eq_true rfl⟩) (fun ad => ⟨0, rfl⟩) ?_
  intro X _ hX hret
  have hcs : ((0 : Nat), (0 : Nat)).1 ≤ (sR X).cells ∧ ((0 : Nat), (0 : Nat)).2 ≤ (sR X).slots := ⟨Nat.zero_le _, Nat.zero_le _⟩
  generalize hcs0 : ((0 : Nat), (0 : Nat)) = cs at hcs hret ⊢
  unfold fX10_thrown at h
  show sW X 1 cs σ 0 [some (.ref (sad X 123))] []
  refine s_aload_n hX dX10_thrown_0 rfl ?_
  refine s_getI hX fo_RX10_1_9 SH_123 rfl dX10_thrown_1 ?_
  obtain rfl := rt1 h
  exact hret _ _ (nzi _) dX10_thrown_4
def fX10_fails (σ : Mm) (l1 : Int32) : Option (Int32 × Mm) :=
  bd (upm σ 123 (upd (σ 123) 0 l1)) fun σ1 =>
  some (0, σ1)
set_option maxHeartbeats 4000000 in
theorem cX10_fails_ok (l : Launch) {σ : Mm} {l1 : Int32} {r : Int32} {σ' : Mm}  (h : fX10_fails σ l1 = some (r, σ')) : cI l yX10_fails cX10_fails 2 .int 0 0 (fun ad => [.ref (ad 123), .int l1]) σ r σ' := by
  refine c_enterI (fun ad => [some (.ref (ad 123)), some (.int l1)]) (by decide) (fun ad => ⟨by simp [Value.category], Nat.le_of_ble_eq_true rfl⟩) (fun ad => ⟨0, rfl⟩) ?_
  intro X _ hX hret
  have hcs : ((0 : Nat), (0 : Nat)).1 ≤ (sR X).cells ∧ ((0 : Nat), (0 : Nat)).2 ≤ (sR X).slots := ⟨Nat.zero_le _, Nat.zero_le _⟩
  generalize hcs0 : ((0 : Nat), (0 : Nat)) = cs at hcs hret ⊢
  unfold fX10_fails at h
  show sW X 2 cs σ 0 [some (.ref (sad X 123)), some (.int l1)] []
  refine s_aload_n hX dX10_fails_0 rfl ?_
  refine s_iload_n hX dX10_fails_1 rfl ?_
  obtain ⟨σ1, eσ1, h⟩ := bd_some h
  refine s_putI hX fo_RX10_1_9 SH_123 rfl dX10_fails_2 ?_
  refine s_mem σ1 eσ1 ?_
  refine s_iconst 0 hX dX10_fails_5 (by decide) ?_
  obtain ⟨rfl, rfl⟩ := rt2 h
  exact hret _ _ (nzi _) dX10_fails_6
def gX10_empties_2  (rec : Mm × Int32 → Option (Mm)) (σ : Mm) (x1 : Int32) : Option (Mm) :=
  if 8 ≤ x1 then
  some σ
else
  gd x1 8 <|
  bd (upm σ 124 (upd (σ 124) x1.toNatClampNeg 0)) fun σ2 =>
  gd x1 8 <|
  bd (upm σ2 125 (upd (σ2 125) x1.toNatClampNeg 2)) fun σ4 =>
  gd x1 8 <|
  bd (upm σ4 126 (upd (σ4 126) x1.toNatClampNeg 0)) fun σ6 =>
  gd x1 8 <|
  bd (upm σ6 129 (upd (σ6 129) x1.toNatClampNeg 1)) fun σ8 =>
  bd (x1 + 1) fun v9 =>
  rec (σ8, v9)
def qX10_empties_2  : Nat → Mm × Int32 → Option (Mm) := lp (fun rec s => gX10_empties_2  rec s.1 s.2)
def gX10_empties_44  (rec : Mm × Int32 → Option (Mm)) (σ : Mm) (x1 : Int32) : Option (Mm) :=
  if 12 ≤ x1 then
  some σ
else
  gd x1 12 <|
  bd (upm σ 134 (upd (σ 134) x1.toNatClampNeg 0)) fun σ2 =>
  bd (x1 + 1) fun v3 =>
  rec (σ2, v3)
def qX10_empties_44  : Nat → Mm × Int32 → Option (Mm) := lp (fun rec s => gX10_empties_44  rec s.1 s.2)
def fX10_empties (σ : Mm) : Option Mm :=
  (qX10_empties_2  FU (σ, 0)).bind fun σ1 =>
  (qX10_empties_44  FU (σ1, 0)).bind fun σ2 =>
  some σ2
set_option maxHeartbeats 4000000 in
theorem pX10_empties_2 {X : sT} {cs : Nat × Nat} (hX : sX X cX10_empties RX10 2 0 0) (hcs : cs.1 ≤ (sR X).cells ∧ cs.2 ≤ (sR X).slots)   : ∀ (n : Nat) (s : Mm × Int32) (r : Mm), qX10_empties_2  n s = some r → sW X 2 cs r 42 [some (.ref (sad X 123)), none] [] → sW X 2 cs s.1 2 [some (.ref (sad X 123)), some (.int s.2)] [] := by
  refine lp_ind (P := fun (s : Mm × Int32) (r : Mm) => sW X 2 cs r 42 [some (.ref (sad X 123)), none] [] → sW X 2 cs s.1 2 [some (.ref (sad X 123)), some (.int s.2)] []) ?_
  intro rec hrec s r h0 hk
  obtain ⟨σ, x1⟩ := s
  have h : gX10_empties_2  rec σ x1 = some r := h0
  unfold gX10_empties_2 at h
  show sW X 2 cs σ 2 [some (.ref (sad X 123)), some (.int x1)] []
  refine s_iload_n hX dX10_empties_2 rfl ?_
  refine s_bipush 8 hX dX10_empties_3 (by decide) ?_
  refine s_ic_ge (tgt := 42) hX dX10_empties_5 (by decide) (fun c10 => ?_) (fun c10 => ?_)
  · replace h := (if_pos c10).symm.trans h
    obtain rfl := rt1 h
    refine s_mask [true, false] ?_
    exact hk
  · replace h := (if_neg c10).symm.trans h
    refine s_aload_n hX dX10_empties_8 rfl ?_
    refine s_getR (r := 124) hX fo_RX10_23_9 SH_123 rfl dX10_empties_9 ?_
    refine s_iload_n hX dX10_empties_12 rfl ?_
    refine s_iconst 0 hX dX10_empties_13 (by decide) ?_
    obtain ⟨c1, h⟩ := gd_some h
    obtain ⟨σ2, eσ2, h⟩ := bd_some h
    refine s_iast hX SH_124 c1 dX10_empties_14 ?_
    refine s_mem σ2 eσ2 ?_
    refine s_aload_n hX dX10_empties_15 rfl ?_
    refine s_getR (r := 125) hX fo_RX10_27_9 SH_123 rfl dX10_empties_16 ?_
    refine s_iload_n hX dX10_empties_19 rfl ?_
    refine s_iconst 2 hX dX10_empties_20 (by decide) ?_
    obtain ⟨c3, h⟩ := gd_some h
    obtain ⟨σ4, eσ4, h⟩ := bd_some h
    refine s_iast hX SH_125 c3 dX10_empties_21 ?_
    refine s_mem σ4 eσ4 ?_
    refine s_aload_n hX dX10_empties_22 rfl ?_
    refine s_getR (r := 126) hX fo_RX10_30_9 SH_123 rfl dX10_empties_23 ?_
    refine s_iload_n hX dX10_empties_26 rfl ?_
    refine s_iconst 0 hX dX10_empties_27 (by decide) ?_
    obtain ⟨c5, h⟩ := gd_some h
    obtain ⟨σ6, eσ6, h⟩ := bd_some h
    refine s_iast hX SH_126 c5 dX10_empties_28 ?_
    refine s_mem σ6 eσ6 ?_
    refine s_aload_n hX dX10_empties_29 rfl ?_
    refine s_getR (r := 129) hX fo_RX10_39_9 SH_123 rfl dX10_empties_30 ?_
    refine s_iload_n hX dX10_empties_33 rfl ?_
    refine s_iconst 1 hX dX10_empties_34 (by decide) ?_
    obtain ⟨c7, h⟩ := gd_some h
    obtain ⟨σ8, eσ8, h⟩ := bd_some h
    refine s_iast hX SH_129 c7 dX10_empties_35 ?_
    refine s_mem σ8 eσ8 ?_
    obtain ⟨v9, ev9, h⟩ := bd_some h
    refine s_iinc v9 hX dX10_empties_36 rfl (by rw [ev9]; rfl) (by decide) ?_
    refine s_goto (tgt := 2) hX dX10_empties_39 (by decide) ?_
    refine s_mask [true, true] ?_
    exact hrec _ _ h hk
set_option maxHeartbeats 4000000 in
theorem pX10_empties_44 {X : sT} {cs : Nat × Nat} (hX : sX X cX10_empties RX10 2 0 0) (hcs : cs.1 ≤ (sR X).cells ∧ cs.2 ≤ (sR X).slots)   : ∀ (n : Nat) (s : Mm × Int32) (r : Mm), qX10_empties_44  n s = some r → sW X 2 cs r 63 [none, none] [] → sW X 2 cs s.1 44 [some (.ref (sad X 123)), some (.int s.2)] [] := by
  refine lp_ind (P := fun (s : Mm × Int32) (r : Mm) => sW X 2 cs r 63 [none, none] [] → sW X 2 cs s.1 44 [some (.ref (sad X 123)), some (.int s.2)] []) ?_
  intro rec hrec s r h0 hk
  obtain ⟨σ, x1⟩ := s
  have h : gX10_empties_44  rec σ x1 = some r := h0
  unfold gX10_empties_44 at h
  show sW X 2 cs σ 44 [some (.ref (sad X 123)), some (.int x1)] []
  refine s_iload_n hX dX10_empties_44 rfl ?_
  refine s_bipush 12 hX dX10_empties_45 (by decide) ?_
  refine s_ic_ge (tgt := 63) hX dX10_empties_47 (by decide) (fun c4 => ?_) (fun c4 => ?_)
  · replace h := (if_pos c4).symm.trans h
    obtain rfl := rt1 h
    refine s_mask [false, false] ?_
    exact hk
  · replace h := (if_neg c4).symm.trans h
    refine s_aload_n hX dX10_empties_50 rfl ?_
    refine s_getR (r := 134) hX fo_RX10_54_9 SH_123 rfl dX10_empties_51 ?_
    refine s_iload_n hX dX10_empties_54 rfl ?_
    refine s_iconst 0 hX dX10_empties_55 (by decide) ?_
    obtain ⟨c1, h⟩ := gd_some h
    obtain ⟨σ2, eσ2, h⟩ := bd_some h
    refine s_iast hX SH_134 c1 dX10_empties_56 ?_
    refine s_mem σ2 eσ2 ?_
    obtain ⟨v3, ev3, h⟩ := bd_some h
    refine s_iinc v3 hX dX10_empties_57 rfl (by rw [ev3]; rfl) (by decide) ?_
    refine s_goto (tgt := 44) hX dX10_empties_60 (by decide) ?_
    refine s_mask [true, true] ?_
    exact hrec _ _ h hk
set_option maxHeartbeats 4000000 in
theorem cX10_empties_ok (l : Launch) {σ : Mm} {σ' : Mm}  (h : fX10_empties σ = some σ') : cV l yX10_empties cX10_empties 2 0 0 (fun ad => [.ref (ad 123)]) σ σ' := by
  refine c_enterV (fun ad => [some (.ref (ad 123)), none]) (by decide) (fun ad => ⟨by simp [Value.category], Nat.le_of_ble_eq_true rfl⟩) (fun ad => ⟨1, rfl⟩) ?_
  intro X _ hX hret
  have hcs : ((0 : Nat), (0 : Nat)).1 ≤ (sR X).cells ∧ ((0 : Nat), (0 : Nat)).2 ≤ (sR X).slots := ⟨Nat.zero_le _, Nat.zero_le _⟩
  generalize hcs0 : ((0 : Nat), (0 : Nat)) = cs at hcs hret ⊢
  unfold fX10_empties at h
  show sW X 2 cs σ 0 [some (.ref (sad X 123)), none] []
  refine s_iconst 0 hX dX10_empties_0 (by decide) ?_
  refine s_istore_n hX dX10_empties_1 (by decide) ?_
  obtain ⟨σ1, hc, h⟩ := bn_some h
  refine s_mask [true, true] ?_
  refine pX10_empties_2 hX hcs  _ _ _ hc ?_
  refine s_iconst 0 hX dX10_empties_42 (by decide) ?_
  refine s_istore_n hX dX10_empties_43 (by decide) ?_
  obtain ⟨σ2, hc, h⟩ := bn_some h
  refine s_mask [true, true] ?_
  refine pX10_empties_44 hX hcs  _ _ _ hc ?_
  obtain rfl := rt1 h
  exact hret _ _ dX10_empties_63
def fX10_in (σ : Mm) (l0 : Int32) (l1 : Int32) (l2 : Int32) : Option Int32 :=
  if l0 < l1 then
  some 0
else
  if l2 < l0 then
  some 0
else
  some 1
set_option maxHeartbeats 4000000 in
theorem cX10_in_ok (l : Launch) {σ : Mm} {l0 : Int32} {l1 : Int32} {l2 : Int32} {r : Int32}  (h : fX10_in σ l0 l1 l2 = some r) : cI l yX10_in cX10_in 3 .boolean 0 0 (fun ad => [.int l0, .int l1, .int l2]) σ r σ := by
  refine c_enterI (fun ad => [some (.int l0), some (.int l1), some (.int l2)]) (by decide) (fun ad => ⟨by simp [Value.category], Nat.le_of_ble_eq_true rfl⟩) (fun ad => ⟨0, rfl⟩) ?_
  intro X _ hX hret
  have hcs : ((0 : Nat), (0 : Nat)).1 ≤ (sR X).cells ∧ ((0 : Nat), (0 : Nat)).2 ≤ (sR X).slots := ⟨Nat.zero_le _, Nat.zero_le _⟩
  generalize hcs0 : ((0 : Nat), (0 : Nat)) = cs at hcs hret ⊢
  unfold fX10_in at h
  show sW X 3 cs σ 0 [some (.int l0), some (.int l1), some (.int l2)] []
  refine s_iload_n hX dX10_in_0 rfl ?_
  refine s_iload_n hX dX10_in_1 rfl ?_
  refine s_ic_lt (tgt := 14) hX dX10_in_2 (by decide) (fun c2 => ?_) (fun c2 => ?_)
  · replace h := (if_pos c2).symm.trans h
    refine s_iconst 0 hX dX10_in_14 (by decide) ?_
    obtain rfl := rt1 h
    exact hret _ _ nz0 dX10_in_15
  · replace h := (if_neg c2).symm.trans h
    refine s_iload_n hX dX10_in_5 rfl ?_
    refine s_iload_n hX dX10_in_6 rfl ?_
    refine s_ic_gt (tgt := 14) hX dX10_in_7 (by decide) (fun c1 => ?_) (fun c1 => ?_)
    · replace h := (if_pos c1).symm.trans h
      refine s_iconst 0 hX dX10_in_14 (by decide) ?_
      obtain rfl := rt1 h
      exact hret _ _ nz0 dX10_in_15
    · replace h := (if_neg c1).symm.trans h
      refine s_iconst 1 hX dX10_in_10 (by decide) ?_
      refine s_goto (tgt := 15) hX dX10_in_11 (by decide) ?_
      obtain rfl := rt1 h
      exact hret _ _ nz1 dX10_in_15
def fX10_isBlock (σ : Mm) (l1 : Int32) : Option Int32 :=
  (fX10_in σ l1 0 ((σ 123 1) - 1)).bind fun r1 =>
  gb r1 (some r1)
set_option maxHeartbeats 4000000 in
theorem cX10_isBlock_ok (l : Launch) {σ : Mm} {l1 : Int32} {r : Int32}  (h : fX10_isBlock σ l1 = some r) : cI l yX10_isBlock cX10_isBlock 2 .boolean 1 22 (fun ad => [.ref (ad 123), .int l1]) σ r σ := by
  refine c_enterI (fun ad => [some (.ref (ad 123)), some (.int l1)]) (by decide) (fun ad => ⟨by simp [Value.category], Nat.le_of_ble_eq_true rfl⟩) (fun ad => ⟨0, rfl⟩) ?_
  intro X _ hX hret
  have hcs : ((0 : Nat), (0 : Nat)).1 ≤ (sR X).cells ∧ ((0 : Nat), (0 : Nat)).2 ≤ (sR X).slots := ⟨Nat.zero_le _, Nat.zero_le _⟩
  generalize hcs0 : ((0 : Nat), (0 : Nat)) = cs at hcs hret ⊢
  unfold fX10_isBlock at h
  show sW X 2 cs σ 0 [some (.ref (sad X 123)), some (.int l1)] []
  refine s_iload_n hX dX10_isBlock_0 rfl ?_
  refine s_iconst 0 hX dX10_isBlock_1 (by decide) ?_
  refine s_aload_n hX dX10_isBlock_2 rfl ?_
  refine s_getI hX fo_RX10_17_9 SH_123 rfl dX10_isBlock_3 ?_
  refine s_iconst 1 hX dX10_isBlock_6 (by decide) ?_
  refine s_isub hX dX10_isBlock_7 ?_
  obtain ⟨r1, hc, h⟩ := bn_some h
  refine s_callSI _ hX (cX10_in_ok (sl X)  hc) ms_RX10_7 (fun _ => rfl) (by decide) (Nat.le_of_ble_eq_true rfl) hcs dX10_isBlock_8 rfl ?_
  obtain ⟨hv, h⟩ := gb_some h
  obtain rfl := rt1 h
  exact hret _ _ (gb_n hv) dX10_isBlock_11
def fX10_clear (σ : Mm) (l1 : Int32) : Option (Int32 × Mm) :=
  bd (upm σ 123 (upd (σ 123) 0 0)) fun σ1 =>
  (fX10_in σ1 l1 1 8).bind fun r2 =>
  if r2 = 0 then
  bn2 (fX10_fails σ1 1) fun r7 σ8 =>
  some (r7, σ8)
else
  bd (σ1 123 1) fun v3 =>
  bd (upm σ1 123 (upd (σ1 123) 1 l1)) fun σ4 =>
  (fX10_empties σ4).bind fun σ5 =>
  bd (upm σ5 123 (upd (σ5 123) 14 0)) fun σ6 =>
  some (v3, σ6)
set_option maxHeartbeats 4000000 in
theorem cX10_clear_ok (l : Launch) {σ : Mm} {l1 : Int32} {r : Int32} {σ' : Mm}  (h : fX10_clear σ l1 = some (r, σ')) : cI l yX10_clear cX10_clear 3 .int 1 22 (fun ad => [.ref (ad 123), .int l1]) σ r σ' := by
  refine c_enterI (fun ad => [some (.ref (ad 123)), some (.int l1), none]) (by decide) (fun ad => ⟨by simp [Value.category], Nat.le_of_ble_eq_true rfl⟩) (fun ad => ⟨1, rfl⟩) ?_
  intro X _ hX hret
  have hcs : ((0 : Nat), (0 : Nat)).1 ≤ (sR X).cells ∧ ((0 : Nat), (0 : Nat)).2 ≤ (sR X).slots := ⟨Nat.zero_le _, Nat.zero_le _⟩
  generalize hcs0 : ((0 : Nat), (0 : Nat)) = cs at hcs hret ⊢
  unfold fX10_clear at h
  show sW X 3 cs σ 0 [some (.ref (sad X 123)), some (.int l1), none] []
  refine s_aload_n hX dX10_clear_0 rfl ?_
  refine s_iconst 0 hX dX10_clear_1 (by decide) ?_
  obtain ⟨σ1, eσ1, h⟩ := bd_some h
  refine s_putI hX fo_RX10_1_9 SH_123 rfl dX10_clear_2 ?_
  refine s_mem σ1 eσ1 ?_
  refine s_iload_n hX dX10_clear_5 rfl ?_
  refine s_iconst 1 hX dX10_clear_6 (by decide) ?_
  refine s_bipush 8 hX dX10_clear_7 (by decide) ?_
  obtain ⟨r2, hc, h⟩ := bn_some h
  refine s_callSI _ hX (cX10_in_ok (sl X)  hc) ms_RX10_7 (fun _ => rfl) (by decide) (Nat.le_of_ble_eq_true rfl) hcs dX10_clear_9 rfl ?_
  refine s_if_ne (tgt := 21) hX dX10_clear_12 (by decide) (fun c9 => ?_) (fun c9 => ?_)
  · replace h := (if_neg c9).symm.trans h
    refine s_aload_n hX dX10_clear_21 rfl ?_
    refine s_getI hX fo_RX10_17_9 SH_123 rfl dX10_clear_22 ?_
    obtain ⟨v3, ev3, h⟩ := bd_some h
    refine s_topi v3 ev3 ?_
    refine s_istore_n hX dX10_clear_25 (by decide) ?_
    refine s_aload_n hX dX10_clear_26 rfl ?_
    refine s_iload_n hX dX10_clear_27 rfl ?_
    obtain ⟨σ4, eσ4, h⟩ := bd_some h
    refine s_putI hX fo_RX10_17_9 SH_123 rfl dX10_clear_28 ?_
    refine s_mem σ4 eσ4 ?_
    refine s_aload_n hX dX10_clear_31 rfl ?_
    obtain ⟨σ5, hc, h⟩ := bn_some h
    refine s_callVV _ hX (cX10_empties_ok (sl X)  hc) SH_123 mv_RX10_214_9 (fun _ => rfl) (by decide) (Nat.le_of_ble_eq_true rfl) hcs dX10_clear_32 rfl ?_
    refine s_aload_n hX dX10_clear_35 rfl ?_
    refine s_iconst 0 hX dX10_clear_36 (by decide) ?_
    obtain ⟨σ6, eσ6, h⟩ := bd_some h
    refine s_putZ hX fo_RX10_57_9 SH_123 rfl (Or.inl rfl) dX10_clear_37 ?_
    refine s_mem σ6 eσ6 ?_
    refine s_iload_n hX dX10_clear_40 rfl ?_
    obtain ⟨rfl, rfl⟩ := rt2 h
    exact hret _ _ (nzi _) dX10_clear_41
  · replace h := (if_pos c9).symm.trans h
    refine s_aload_n hX dX10_clear_15 rfl ?_
    refine s_iconst 1 hX dX10_clear_16 (by decide) ?_
    obtain ⟨r7, σ8, hc, h⟩ := bn2_some h
    refine s_callVI _ hX (cX10_fails_ok (sl X)  hc) SH_123 mv_RX10_217_9 (fun _ => rfl) (by decide) (Nat.le_of_ble_eq_true rfl) hcs dX10_clear_17 rfl ?_
    obtain ⟨rfl, rfl⟩ := rt2 h
    exact hret _ _ (nzi _) dX10_clear_20
def fX10_lays (σ : Mm) (l1 : Int32) (l2 : Int32) (l3 : Int32) (l4 : Int32) (l5 : Int32) : Option Mm :=
  gd l1 8 <|
  bd ((8 * l1) + (σ 124 l1.toNatClampNeg)) fun v2 =>
  gd v2 64 <|
  bd (upm σ 130 (upd (σ 130) v2.toNatClampNeg l2)) fun σ4 =>
  gd v2 64 <|
  bd (upm σ4 131 (upd (σ4 131) v2.toNatClampNeg l3)) fun σ6 =>
  gd v2 64 <|
  bd (upm σ6 132 (upd (σ6 132) v2.toNatClampNeg l4)) fun σ8 =>
  jn (fun (v9 : Int32) => gd v2 64 <|
  bd (upm σ8 133 (upd (σ8 133) v2.toNatClampNeg v9)) fun σ12 =>
  gd l1 8 <|
  gd l1 8 <|
  bd (upm σ12 124 (upd (σ12 124) l1.toNatClampNeg ((σ12 124 l1.toNatClampNeg) + 1))) fun σ15 =>
  some σ15) fun j10 =>
  if 2 ≤ l2 then
  j10 l5
else
  j10 (-1)
set_option maxHeartbeats 4000000 in
theorem cX10_lays_ok (l : Launch) {σ : Mm} {l1 : Int32} {l2 : Int32} {l3 : Int32} {l4 : Int32} {l5 : Int32} {σ' : Mm}  (h : fX10_lays σ l1 l2 l3 l4 l5 = some σ') : cV l yX10_lays cX10_lays 7 0 0 (fun ad => [.ref (ad 123), .int l1, .int l2, .int l3, .int l4, .int l5]) σ σ' := by
  refine c_enterV (fun ad => [some (.ref (ad 123)), some (.int l1), some (.int l2), some (.int l3), some (.int l4), some (.int l5), none]) (by decide) (fun ad => ⟨by simp [Value.category], Nat.le_of_ble_eq_true rfl⟩) (fun ad => ⟨1, rfl⟩) ?_
  intro X _ hX hret
  have hcs : ((0 : Nat), (0 : Nat)).1 ≤ (sR X).cells ∧ ((0 : Nat), (0 : Nat)).2 ≤ (sR X).slots := ⟨Nat.zero_le _, Nat.zero_le _⟩
  generalize hcs0 : ((0 : Nat), (0 : Nat)) = cs at hcs hret ⊢
  unfold fX10_lays at h
  show sW X 7 cs σ 0 [some (.ref (sad X 123)), some (.int l1), some (.int l2), some (.int l3), some (.int l4), some (.int l5), none] []
  refine s_bipush 8 hX dX10_lays_0 (by decide) ?_
  refine s_iload_n hX dX10_lays_2 rfl ?_
  refine s_imul hX dX10_lays_3 ?_
  refine s_aload_n hX dX10_lays_4 rfl ?_
  refine s_getR (r := 124) hX fo_RX10_23_9 SH_123 rfl dX10_lays_5 ?_
  refine s_iload_n hX dX10_lays_8 rfl ?_
  obtain ⟨c1, h⟩ := gd_some h
  refine s_iald hX SH_124 c1 dX10_lays_9 ?_
  refine s_iadd hX dX10_lays_10 ?_
  obtain ⟨v2, ev2, h⟩ := bd_some h
  refine s_topi v2 ev2 ?_
  refine s_istore hX dX10_lays_11 (by decide) ?_
  refine s_aload_n hX dX10_lays_13 rfl ?_
  refine s_getR (r := 130) hX fo_RX10_42_9 SH_123 rfl dX10_lays_14 ?_
  refine s_iload hX dX10_lays_17 rfl ?_
  refine s_iload_n hX dX10_lays_19 rfl ?_
  obtain ⟨c3, h⟩ := gd_some h
  obtain ⟨σ4, eσ4, h⟩ := bd_some h
  refine s_iast hX SH_130 c3 dX10_lays_20 ?_
  refine s_mem σ4 eσ4 ?_
  refine s_aload_n hX dX10_lays_21 rfl ?_
  refine s_getR (r := 131) hX fo_RX10_45_9 SH_123 rfl dX10_lays_22 ?_
  refine s_iload hX dX10_lays_25 rfl ?_
  refine s_iload_n hX dX10_lays_27 rfl ?_
  obtain ⟨c5, h⟩ := gd_some h
  obtain ⟨σ6, eσ6, h⟩ := bd_some h
  refine s_iast hX SH_131 c5 dX10_lays_28 ?_
  refine s_mem σ6 eσ6 ?_
  refine s_aload_n hX dX10_lays_29 rfl ?_
  refine s_getR (r := 132) hX fo_RX10_48_9 SH_123 rfl dX10_lays_30 ?_
  refine s_iload hX dX10_lays_33 rfl ?_
  refine s_iload hX dX10_lays_35 rfl ?_
  obtain ⟨c7, h⟩ := gd_some h
  obtain ⟨σ8, eσ8, h⟩ := bd_some h
  refine s_iast hX SH_132 c7 dX10_lays_37 ?_
  refine s_mem σ8 eσ8 ?_
  refine s_aload_n hX dX10_lays_38 rfl ?_
  refine s_getR (r := 133) hX fo_RX10_51_9 SH_123 rfl dX10_lays_39 ?_
  refine s_iload hX dX10_lays_42 rfl ?_
  refine s_iload_n hX dX10_lays_44 rfl ?_
  refine s_iconst 2 hX dX10_lays_45 (by decide) ?_
  refine jn_use (fun j => ∀ (v9 : Int32), j v9 = some σ' → sW X 7 cs σ8 55 [some (.ref (sad X 123)), some (.int l1), none, none, none, none, none] [.int v9, .int v2, .ref (sad X 133)]) h ?_ ?_
  · intro v9 h
    obtain ⟨c11, h⟩ := gd_some h
    obtain ⟨σ12, eσ12, h⟩ := bd_some h
    refine s_iast hX SH_133 c11 dX10_lays_55 ?_
    refine s_mem σ12 eσ12 ?_
    refine s_aload_n hX dX10_lays_56 rfl ?_
    refine s_getR (r := 124) hX fo_RX10_23_9 SH_123 rfl dX10_lays_57 ?_
    refine s_iload_n hX dX10_lays_60 rfl ?_
    refine s_dup2 hX dX10_lays_61 rfl rfl ?_
    obtain ⟨c13, h⟩ := gd_some h
    refine s_iald hX SH_124 c13 dX10_lays_62 ?_
    refine s_iconst 1 hX dX10_lays_63 (by decide) ?_
    refine s_iadd hX dX10_lays_64 ?_
    obtain ⟨c14, h⟩ := gd_some h
    obtain ⟨σ15, eσ15, h⟩ := bd_some h
    refine s_iast hX SH_124 c14 dX10_lays_65 ?_
    refine s_mem σ15 eσ15 ?_
    obtain rfl := rt1 h
    exact hret _ _ dX10_lays_66
  · intro j10 hj10 h
    refine s_ic_ge (tgt := 53) hX dX10_lays_46 (by decide) (fun c16 => ?_) (fun c16 => ?_)
    · replace h := (if_pos c16).symm.trans h
      refine s_iload hX dX10_lays_53 rfl ?_
      refine s_mask [true, true, false, false, false, false, false] ?_
      exact hj10 _ h
    · replace h := (if_neg c16).symm.trans h
      refine s_iconst (-1) hX dX10_lays_49 (by decide) ?_
      refine s_goto (tgt := 55) hX dX10_lays_50 (by decide) ?_
      refine s_mask [true, true, false, false, false, false, false] ?_
      exact hj10 _ h
def fX10_isVariable (σ : Mm) (l0 : Int32) : Option Int32 :=
  (fX10_in σ l0 0 11).bind fun r1 =>
  gb r1 (some r1)
set_option maxHeartbeats 4000000 in
theorem cX10_isVariable_ok (l : Launch) {σ : Mm} {l0 : Int32} {r : Int32}  (h : fX10_isVariable σ l0 = some r) : cI l yX10_isVariable cX10_isVariable 1 .boolean 1 22 (fun ad => [.int l0]) σ r σ := by
  refine c_enterI (fun ad => [some (.int l0)]) (by decide) (fun ad => ⟨by simp [Value.category], Nat.le_of_ble_eq_true rfl⟩) (fun ad => ⟨0, rfl⟩) ?_
  intro X _ hX hret
  have hcs : ((0 : Nat), (0 : Nat)).1 ≤ (sR X).cells ∧ ((0 : Nat), (0 : Nat)).2 ≤ (sR X).slots := ⟨Nat.zero_le _, Nat.zero_le _⟩
  generalize hcs0 : ((0 : Nat), (0 : Nat)) = cs at hcs hret ⊢
  unfold fX10_isVariable at h
  show sW X 1 cs σ 0 [some (.int l0)] []
  refine s_iload_n hX dX10_isVariable_0 rfl ?_
  refine s_iconst 0 hX dX10_isVariable_1 (by decide) ?_
  refine s_bipush 11 hX dX10_isVariable_2 (by decide) ?_
  obtain ⟨r1, hc, h⟩ := bn_some h
  refine s_callSI _ hX (cX10_in_ok (sl X)  hc) ms_RX10_7 (fun _ => rfl) (by decide) (Nat.le_of_ble_eq_true rfl) hcs dX10_isVariable_4 rfl ?_
  obtain ⟨hv, h⟩ := gb_some h
  obtain rfl := rt1 h
  exact hret _ _ (gb_n hv) dX10_isVariable_7
def fX10_append (σ : Mm) (l1 : Int32) (l2 : Int32) (l3 : Int32) (l4 : Int32) (l5 : Int32) : Option (Int32 × Mm) :=
  bd (upm σ 123 (upd (σ 123) 0 0)) fun σ1 =>
  (fX10_isBlock σ1 l1).bind fun r2 =>
  if r2 = 0 then
  bn2 (fX10_fails σ1 1) fun r34 σ35 =>
  some (r34, σ35)
else
  (fX10_in σ1 l2 0 4).bind fun r3 =>
  if r3 = 0 then
  bn2 (fX10_fails σ1 2) fun r4 σ5 =>
  some (r4, σ5)
else
  (fX10_isVariable σ1 l3).bind fun r6 =>
  if r6 = 0 then
  bn2 (fX10_fails σ1 2) fun r7 σ8 =>
  some (r7, σ8)
else
  jn (fun (_u : Unit) => jn (fun (_u : Unit) => gd l1 8 <|
  if (σ1 124 l1.toNatClampNeg) = 8 then
  bn2 (fX10_fails σ1 3) fun r15 σ16 =>
  some (r15, σ16)
else
  (fX10_lays σ1 l1 l2 l3 l4 l5).bind fun σ12 =>
  bd (upm σ12 123 (upd (σ12 123) 14 0)) fun σ13 =>
  gd l1 8 <|
  some (σ13 124 l1.toNatClampNeg, σ13)) fun j10 =>
  if l2 < 2 then
  j10 ()
else
  (fX10_isVariable σ1 l5).bind fun r18 =>
  if r18 = 0 then
  bn2 (fX10_fails σ1 2) fun r19 σ20 =>
  some (r19, σ20)
else
  j10 ()) fun j9 =>
  if l2 = 0 then
  (fX10_in σ1 l4 (-999) 999).bind fun r27 =>
  if r27 = 0 then
  bn2 (fX10_fails σ1 2) fun r28 σ29 =>
  some (r28, σ29)
else
  j9 ()
else
  (fX10_isVariable σ1 l4).bind fun r23 =>
  if r23 = 0 then
  bn2 (fX10_fails σ1 2) fun r24 σ25 =>
  some (r24, σ25)
else
  j9 ()
set_option maxHeartbeats 4000000 in
theorem cX10_append_ok (l : Launch) {σ : Mm} {l1 : Int32} {l2 : Int32} {l3 : Int32} {l4 : Int32} {l5 : Int32} {r : Int32} {σ' : Mm}  (h : fX10_append σ l1 l2 l3 l4 l5 = some (r, σ')) : cI l yX10_append cX10_append 6 .int 2 43 (fun ad => [.ref (ad 123), .int l1, .int l2, .int l3, .int l4, .int l5]) σ r σ' := by
  refine c_enterI (fun ad => [some (.ref (ad 123)), some (.int l1), some (.int l2), some (.int l3), some (.int l4), some (.int l5)]) (by decide) (fun ad => ⟨by simp [Value.category], Nat.le_of_ble_eq_true rfl⟩) (fun ad => ⟨0, rfl⟩) ?_
  intro X _ hX hret
  have hcs : ((0 : Nat), (0 : Nat)).1 ≤ (sR X).cells ∧ ((0 : Nat), (0 : Nat)).2 ≤ (sR X).slots := ⟨Nat.zero_le _, Nat.zero_le _⟩
  generalize hcs0 : ((0 : Nat), (0 : Nat)) = cs at hcs hret ⊢
  unfold fX10_append at h
  show sW X 6 cs σ 0 [some (.ref (sad X 123)), some (.int l1), some (.int l2), some (.int l3), some (.int l4), some (.int l5)] []
  refine s_aload_n hX dX10_append_0 rfl ?_
  refine s_iconst 0 hX dX10_append_1 (by decide) ?_
  obtain ⟨σ1, eσ1, h⟩ := bd_some h
  refine s_putI hX fo_RX10_1_9 SH_123 rfl dX10_append_2 ?_
  refine s_mem σ1 eσ1 ?_
  refine s_aload_n hX dX10_append_5 rfl ?_
  refine s_iload_n hX dX10_append_6 rfl ?_
  obtain ⟨r2, hc, h⟩ := bn_some h
  refine s_callVI _ hX (cX10_isBlock_ok (sl X)  hc) SH_123 mv_RX10_221_9 (fun _ => rfl) (by decide) (Nat.le_of_ble_eq_true rfl) hcs dX10_append_7 rfl ?_
  refine s_if_ne (tgt := 19) hX dX10_append_10 (by decide) (fun c36 => ?_) (fun c36 => ?_)
  · replace h := (if_neg c36).symm.trans h
    refine s_iload_n hX dX10_append_19 rfl ?_
    refine s_iconst 0 hX dX10_append_20 (by decide) ?_
    refine s_iconst 4 hX dX10_append_21 (by decide) ?_
    obtain ⟨r3, hc, h⟩ := bn_some h
    refine s_callSI _ hX (cX10_in_ok (sl X)  hc) ms_RX10_7 (fun _ => rfl) (by decide) (Nat.le_of_ble_eq_true rfl) hcs dX10_append_22 rfl ?_
    refine s_if_eq (tgt := 77) hX dX10_append_25 (by decide) (fun c33 => ?_) (fun c33 => ?_)
    · replace h := (if_pos c33).symm.trans h
      refine s_aload_n hX dX10_append_77 rfl ?_
      refine s_iconst 2 hX dX10_append_78 (by decide) ?_
      obtain ⟨r4, σ5, hc, h⟩ := bn2_some h
      refine s_callVI _ hX (cX10_fails_ok (sl X)  hc) SH_123 mv_RX10_217_9 (fun _ => rfl) (by decide) (Nat.le_of_ble_eq_true rfl) hcs dX10_append_79 rfl ?_
      obtain ⟨rfl, rfl⟩ := rt2 h
      exact hret _ _ (nzi _) dX10_append_82
    · replace h := (if_neg c33).symm.trans h
      refine s_iload_n hX dX10_append_28 rfl ?_
      obtain ⟨r6, hc, h⟩ := bn_some h
      refine s_callSI _ hX (cX10_isVariable_ok (sl X)  hc) ms_RX10_225 (fun _ => rfl) (by decide) (Nat.le_of_ble_eq_true rfl) hcs dX10_append_29 rfl ?_
      refine s_if_eq (tgt := 77) hX dX10_append_32 (by decide) (fun c32 => ?_) (fun c32 => ?_)
      · replace h := (if_pos c32).symm.trans h
        refine s_aload_n hX dX10_append_77 rfl ?_
        refine s_iconst 2 hX dX10_append_78 (by decide) ?_
        obtain ⟨r7, σ8, hc, h⟩ := bn2_some h
        refine s_callVI _ hX (cX10_fails_ok (sl X)  hc) SH_123 mv_RX10_217_9 (fun _ => rfl) (by decide) (Nat.le_of_ble_eq_true rfl) hcs dX10_append_79 rfl ?_
        obtain ⟨rfl, rfl⟩ := rt2 h
        exact hret _ _ (nzi _) dX10_append_82
      · replace h := (if_neg c32).symm.trans h
        refine s_iload_n hX dX10_append_35 rfl ?_
        refine jn_use (fun j => ∀ (_u : Unit), j _u = some (r, σ') → sW X 6 cs σ1 64 [some (.ref (sad X 123)), some (.int l1), some (.int l2), some (.int l3), some (.int l4), some (.int l5)] []) h ?_ ?_
        · intro _u h
          refine s_iload_n hX dX10_append_64 rfl ?_
          refine s_iconst 2 hX dX10_append_65 (by decide) ?_
          refine jn_use (fun j => ∀ (_u : Unit), j _u = some (r, σ') → sW X 6 cs σ1 83 [some (.ref (sad X 123)), some (.int l1), some (.int l2), some (.int l3), some (.int l4), some (.int l5)] []) h ?_ ?_
          · intro _u h
            refine s_aload_n hX dX10_append_83 rfl ?_
            refine s_getR (r := 124) hX fo_RX10_23_9 SH_123 rfl dX10_append_84 ?_
            refine s_iload_n hX dX10_append_87 rfl ?_
            obtain ⟨c11, h⟩ := gd_some h
            refine s_iald hX SH_124 c11 dX10_append_88 ?_
            refine s_bipush 8 hX dX10_append_89 (by decide) ?_
            refine s_ic_ne (tgt := 100) hX dX10_append_91 (by decide) (fun c17 => ?_) (fun c17 => ?_)
            · replace h := (if_neg c17).symm.trans h
              refine s_aload_n hX dX10_append_100 rfl ?_
              refine s_iload_n hX dX10_append_101 rfl ?_
              refine s_iload_n hX dX10_append_102 rfl ?_
              refine s_iload_n hX dX10_append_103 rfl ?_
              refine s_iload hX dX10_append_104 rfl ?_
              refine s_iload hX dX10_append_106 rfl ?_
              obtain ⟨σ12, hc, h⟩ := bn_some h
              refine s_callVV _ hX (cX10_lays_ok (sl X)  hc) SH_123 mv_RX10_228_9 (fun _ => rfl) (by decide) (Nat.le_of_ble_eq_true rfl) hcs dX10_append_108 rfl ?_
              refine s_aload_n hX dX10_append_111 rfl ?_
              refine s_iconst 0 hX dX10_append_112 (by decide) ?_
              obtain ⟨σ13, eσ13, h⟩ := bd_some h
              refine s_putZ hX fo_RX10_57_9 SH_123 rfl (Or.inl rfl) dX10_append_113 ?_
              refine s_mem σ13 eσ13 ?_
              refine s_aload_n hX dX10_append_116 rfl ?_
              refine s_getR (r := 124) hX fo_RX10_23_9 SH_123 rfl dX10_append_117 ?_
              refine s_iload_n hX dX10_append_120 rfl ?_
              obtain ⟨c14, h⟩ := gd_some h
              refine s_iald hX SH_124 c14 dX10_append_121 ?_
              obtain ⟨rfl, rfl⟩ := rt2 h
              exact hret _ _ (nzi _) dX10_append_122
            · replace h := (if_pos c17).symm.trans h
              refine s_aload_n hX dX10_append_94 rfl ?_
              refine s_iconst 3 hX dX10_append_95 (by decide) ?_
              obtain ⟨r15, σ16, hc, h⟩ := bn2_some h
              refine s_callVI _ hX (cX10_fails_ok (sl X)  hc) SH_123 mv_RX10_217_9 (fun _ => rfl) (by decide) (Nat.le_of_ble_eq_true rfl) hcs dX10_append_96 rfl ?_
              obtain ⟨rfl, rfl⟩ := rt2 h
              exact hret _ _ (nzi _) dX10_append_99
          · intro j10 hj10 h
            refine s_ic_lt (tgt := 83) hX dX10_append_66 (by decide) (fun c22 => ?_) (fun c22 => ?_)
            · replace h := (if_pos c22).symm.trans h
              refine s_mask [true, true, true, true, true, true] ?_
              exact hj10 _ h
            · replace h := (if_neg c22).symm.trans h
              refine s_iload hX dX10_append_69 rfl ?_
              obtain ⟨r18, hc, h⟩ := bn_some h
              refine s_callSI _ hX (cX10_isVariable_ok (sl X)  hc) ms_RX10_225 (fun _ => rfl) (by decide) (Nat.le_of_ble_eq_true rfl) hcs dX10_append_71 rfl ?_
              refine s_if_ne (tgt := 83) hX dX10_append_74 (by decide) (fun c21 => ?_) (fun c21 => ?_)
              · replace h := (if_neg c21).symm.trans h
                refine s_mask [true, true, true, true, true, true] ?_
                exact hj10 _ h
              · replace h := (if_pos c21).symm.trans h
                refine s_aload_n hX dX10_append_77 rfl ?_
                refine s_iconst 2 hX dX10_append_78 (by decide) ?_
                obtain ⟨r19, σ20, hc, h⟩ := bn2_some h
                refine s_callVI _ hX (cX10_fails_ok (sl X)  hc) SH_123 mv_RX10_217_9 (fun _ => rfl) (by decide) (Nat.le_of_ble_eq_true rfl) hcs dX10_append_79 rfl ?_
                obtain ⟨rfl, rfl⟩ := rt2 h
                exact hret _ _ (nzi _) dX10_append_82
        · intro j9 hj9 h
          refine s_if_ne (tgt := 56) hX dX10_append_36 (by decide) (fun c31 => ?_) (fun c31 => ?_)
          · replace h := (if_neg c31).symm.trans h
            refine s_iload hX dX10_append_56 rfl ?_
            obtain ⟨r23, hc, h⟩ := bn_some h
            refine s_callSI _ hX (cX10_isVariable_ok (sl X)  hc) ms_RX10_225 (fun _ => rfl) (by decide) (Nat.le_of_ble_eq_true rfl) hcs dX10_append_58 rfl ?_
            refine s_if_eq (tgt := 77) hX dX10_append_61 (by decide) (fun c26 => ?_) (fun c26 => ?_)
            · replace h := (if_pos c26).symm.trans h
              refine s_aload_n hX dX10_append_77 rfl ?_
              refine s_iconst 2 hX dX10_append_78 (by decide) ?_
              obtain ⟨r24, σ25, hc, h⟩ := bn2_some h
              refine s_callVI _ hX (cX10_fails_ok (sl X)  hc) SH_123 mv_RX10_217_9 (fun _ => rfl) (by decide) (Nat.le_of_ble_eq_true rfl) hcs dX10_append_79 rfl ?_
              obtain ⟨rfl, rfl⟩ := rt2 h
              exact hret _ _ (nzi _) dX10_append_82
            · replace h := (if_neg c26).symm.trans h
              refine s_mask [true, true, true, true, true, true] ?_
              exact hj9 _ h
          · replace h := (if_pos c31).symm.trans h
            refine s_iload hX dX10_append_39 rfl ?_
            refine s_sipush (-999) hX dX10_append_41 (by decide) ?_
            refine s_sipush 999 hX dX10_append_44 (by decide) ?_
            obtain ⟨r27, hc, h⟩ := bn_some h
            refine s_callSI _ hX (cX10_in_ok (sl X)  hc) ms_RX10_7 (fun _ => rfl) (by decide) (Nat.le_of_ble_eq_true rfl) hcs dX10_append_47 rfl ?_
            refine s_if_ne (tgt := 64) hX dX10_append_50 (by decide) (fun c30 => ?_) (fun c30 => ?_)
            · replace h := (if_neg c30).symm.trans h
              refine s_mask [true, true, true, true, true, true] ?_
              exact hj9 _ h
            · replace h := (if_pos c30).symm.trans h
              refine s_goto (tgt := 77) hX dX10_append_53 (by decide) ?_
              refine s_aload_n hX dX10_append_77 rfl ?_
              refine s_iconst 2 hX dX10_append_78 (by decide) ?_
              obtain ⟨r28, σ29, hc, h⟩ := bn2_some h
              refine s_callVI _ hX (cX10_fails_ok (sl X)  hc) SH_123 mv_RX10_217_9 (fun _ => rfl) (by decide) (Nat.le_of_ble_eq_true rfl) hcs dX10_append_79 rfl ?_
              obtain ⟨rfl, rfl⟩ := rt2 h
              exact hret _ _ (nzi _) dX10_append_82
  · replace h := (if_pos c36).symm.trans h
    refine s_aload_n hX dX10_append_13 rfl ?_
    refine s_iconst 1 hX dX10_append_14 (by decide) ?_
    obtain ⟨r34, σ35, hc, h⟩ := bn2_some h
    refine s_callVI _ hX (cX10_fails_ok (sl X)  hc) SH_123 mv_RX10_217_9 (fun _ => rfl) (by decide) (Nat.le_of_ble_eq_true rfl) hcs dX10_append_15 rfl ?_
    obtain ⟨rfl, rfl⟩ := rt2 h
    exact hret _ _ (nzi _) dX10_append_18
def fX10_removeLast (σ : Mm) (l1 : Int32) : Option (Int32 × Mm) :=
  bd (upm σ 123 (upd (σ 123) 0 0)) fun σ1 =>
  (fX10_isBlock σ1 l1).bind fun r2 =>
  if r2 = 0 then
  bn2 (fX10_fails σ1 1) fun r13 σ14 =>
  some (r13, σ14)
else
  gd l1 8 <|
  if (σ1 124 l1.toNatClampNeg) = 0 then
  bn2 (fX10_fails σ1 2) fun r10 σ11 =>
  some (r10, σ11)
else
  gd l1 8 <|
  gd l1 8 <|
  bd (upm σ1 124 (upd (σ1 124) l1.toNatClampNeg ((σ1 124 l1.toNatClampNeg) - 1))) fun σ6 =>
  bd (upm σ6 123 (upd (σ6 123) 14 0)) fun σ7 =>
  gd l1 8 <|
  gd ((8 * l1) + (σ7 124 l1.toNatClampNeg)) 64 <|
  some (σ7 130 ((8 * l1) + (σ7 124 l1.toNatClampNeg)).toNatClampNeg, σ7)
set_option maxHeartbeats 4000000 in
theorem cX10_removeLast_ok (l : Launch) {σ : Mm} {l1 : Int32} {r : Int32} {σ' : Mm}  (h : fX10_removeLast σ l1 = some (r, σ')) : cI l yX10_removeLast cX10_removeLast 2 .int 2 43 (fun ad => [.ref (ad 123), .int l1]) σ r σ' := by
  refine c_enterI (fun ad => [some (.ref (ad 123)), some (.int l1)]) (by decide) (fun ad => ⟨by simp [Value.category], Nat.le_of_ble_eq_true rfl⟩) (fun ad => ⟨0, rfl⟩) ?_
  intro X _ hX hret
  have hcs : ((0 : Nat), (0 : Nat)).1 ≤ (sR X).cells ∧ ((0 : Nat), (0 : Nat)).2 ≤ (sR X).slots := ⟨Nat.zero_le _, Nat.zero_le _⟩
  generalize hcs0 : ((0 : Nat), (0 : Nat)) = cs at hcs hret ⊢
  unfold fX10_removeLast at h
  show sW X 2 cs σ 0 [some (.ref (sad X 123)), some (.int l1)] []
  refine s_aload_n hX dX10_removeLast_0 rfl ?_
  refine s_iconst 0 hX dX10_removeLast_1 (by decide) ?_
  obtain ⟨σ1, eσ1, h⟩ := bd_some h
  refine s_putI hX fo_RX10_1_9 SH_123 rfl dX10_removeLast_2 ?_
  refine s_mem σ1 eσ1 ?_
  refine s_aload_n hX dX10_removeLast_5 rfl ?_
  refine s_iload_n hX dX10_removeLast_6 rfl ?_
  obtain ⟨r2, hc, h⟩ := bn_some h
  refine s_callVI _ hX (cX10_isBlock_ok (sl X)  hc) SH_123 mv_RX10_221_9 (fun _ => rfl) (by decide) (Nat.le_of_ble_eq_true rfl) hcs dX10_removeLast_7 rfl ?_
  refine s_if_ne (tgt := 19) hX dX10_removeLast_10 (by decide) (fun c15 => ?_) (fun c15 => ?_)
  · replace h := (if_neg c15).symm.trans h
    refine s_aload_n hX dX10_removeLast_19 rfl ?_
    refine s_getR (r := 124) hX fo_RX10_23_9 SH_123 rfl dX10_removeLast_20 ?_
    refine s_iload_n hX dX10_removeLast_23 rfl ?_
    obtain ⟨c3, h⟩ := gd_some h
    refine s_iald hX SH_124 c3 dX10_removeLast_24 ?_
    refine s_if_ne (tgt := 34) hX dX10_removeLast_25 (by decide) (fun c12 => ?_) (fun c12 => ?_)
    · replace h := (if_neg c12).symm.trans h
      refine s_aload_n hX dX10_removeLast_34 rfl ?_
      refine s_getR (r := 124) hX fo_RX10_23_9 SH_123 rfl dX10_removeLast_35 ?_
      refine s_iload_n hX dX10_removeLast_38 rfl ?_
      refine s_dup2 hX dX10_removeLast_39 rfl rfl ?_
      obtain ⟨c4, h⟩ := gd_some h
      refine s_iald hX SH_124 c4 dX10_removeLast_40 ?_
      refine s_iconst 1 hX dX10_removeLast_41 (by decide) ?_
      refine s_isub hX dX10_removeLast_42 ?_
      obtain ⟨c5, h⟩ := gd_some h
      obtain ⟨σ6, eσ6, h⟩ := bd_some h
      refine s_iast hX SH_124 c5 dX10_removeLast_43 ?_
      refine s_mem σ6 eσ6 ?_
      refine s_aload_n hX dX10_removeLast_44 rfl ?_
      refine s_iconst 0 hX dX10_removeLast_45 (by decide) ?_
      obtain ⟨σ7, eσ7, h⟩ := bd_some h
      refine s_putZ hX fo_RX10_57_9 SH_123 rfl (Or.inl rfl) dX10_removeLast_46 ?_
      refine s_mem σ7 eσ7 ?_
      refine s_aload_n hX dX10_removeLast_49 rfl ?_
      refine s_getR (r := 130) hX fo_RX10_42_9 SH_123 rfl dX10_removeLast_50 ?_
      refine s_bipush 8 hX dX10_removeLast_53 (by decide) ?_
      refine s_iload_n hX dX10_removeLast_55 rfl ?_
      refine s_imul hX dX10_removeLast_56 ?_
      refine s_aload_n hX dX10_removeLast_57 rfl ?_
      refine s_getR (r := 124) hX fo_RX10_23_9 SH_123 rfl dX10_removeLast_58 ?_
      refine s_iload_n hX dX10_removeLast_61 rfl ?_
      obtain ⟨c8, h⟩ := gd_some h
      refine s_iald hX SH_124 c8 dX10_removeLast_62 ?_
      refine s_iadd hX dX10_removeLast_63 ?_
      obtain ⟨c9, h⟩ := gd_some h
      refine s_iald hX SH_130 c9 dX10_removeLast_64 ?_
      obtain ⟨rfl, rfl⟩ := rt2 h
      exact hret _ _ (nzi _) dX10_removeLast_65
    · replace h := (if_pos c12).symm.trans h
      refine s_aload_n hX dX10_removeLast_28 rfl ?_
      refine s_iconst 2 hX dX10_removeLast_29 (by decide) ?_
      obtain ⟨r10, σ11, hc, h⟩ := bn2_some h
      refine s_callVI _ hX (cX10_fails_ok (sl X)  hc) SH_123 mv_RX10_217_9 (fun _ => rfl) (by decide) (Nat.le_of_ble_eq_true rfl) hcs dX10_removeLast_30 rfl ?_
      obtain ⟨rfl, rfl⟩ := rt2 h
      exact hret _ _ (nzi _) dX10_removeLast_33
  · replace h := (if_pos c15).symm.trans h
    refine s_aload_n hX dX10_removeLast_13 rfl ?_
    refine s_iconst 1 hX dX10_removeLast_14 (by decide) ?_
    obtain ⟨r13, σ14, hc, h⟩ := bn2_some h
    refine s_callVI _ hX (cX10_fails_ok (sl X)  hc) SH_123 mv_RX10_217_9 (fun _ => rfl) (by decide) (Nat.le_of_ble_eq_true rfl) hcs dX10_removeLast_15 rfl ?_
    obtain ⟨rfl, rfl⟩ := rt2 h
    exact hret _ _ (nzi _) dX10_removeLast_18
def fX10_ends (σ : Mm) (l1 : Int32) (l2 : Int32) (l3 : Int32) (l4 : Int32) (l5 : Int32) : Option Mm :=
  gd l1 8 <|
  bd (upm σ 125 (upd (σ 125) l1.toNatClampNeg l2)) fun σ2 =>
  gd l1 8 <|
  bd (upm σ2 126 (upd (σ2 126) l1.toNatClampNeg l3)) fun σ4 =>
  gd l1 8 <|
  bd (upm σ4 127 (upd (σ4 127) l1.toNatClampNeg l4)) fun σ6 =>
  gd l1 8 <|
  bd (upm σ6 128 (upd (σ6 128) l1.toNatClampNeg l5)) fun σ8 =>
  some σ8
set_option maxHeartbeats 4000000 in
theorem cX10_ends_ok (l : Launch) {σ : Mm} {l1 : Int32} {l2 : Int32} {l3 : Int32} {l4 : Int32} {l5 : Int32} {σ' : Mm}  (h : fX10_ends σ l1 l2 l3 l4 l5 = some σ') : cV l yX10_ends cX10_ends 6 0 0 (fun ad => [.ref (ad 123), .int l1, .int l2, .int l3, .int l4, .int l5]) σ σ' := by
  refine c_enterV (fun ad => [some (.ref (ad 123)), some (.int l1), some (.int l2), some (.int l3), some (.int l4), some (.int l5)]) (by decide) (fun ad => ⟨by simp [Value.category], Nat.le_of_ble_eq_true rfl⟩) (fun ad => ⟨0, rfl⟩) ?_
  intro X _ hX hret
  have hcs : ((0 : Nat), (0 : Nat)).1 ≤ (sR X).cells ∧ ((0 : Nat), (0 : Nat)).2 ≤ (sR X).slots := ⟨Nat.zero_le _, Nat.zero_le _⟩
  generalize hcs0 : ((0 : Nat), (0 : Nat)) = cs at hcs hret ⊢
  unfold fX10_ends at h
  show sW X 6 cs σ 0 [some (.ref (sad X 123)), some (.int l1), some (.int l2), some (.int l3), some (.int l4), some (.int l5)] []
  refine s_aload_n hX dX10_ends_0 rfl ?_
  refine s_getR (r := 125) hX fo_RX10_27_9 SH_123 rfl dX10_ends_1 ?_
  refine s_iload_n hX dX10_ends_4 rfl ?_
  refine s_iload_n hX dX10_ends_5 rfl ?_
  obtain ⟨c1, h⟩ := gd_some h
  obtain ⟨σ2, eσ2, h⟩ := bd_some h
  refine s_iast hX SH_125 c1 dX10_ends_6 ?_
  refine s_mem σ2 eσ2 ?_
  refine s_aload_n hX dX10_ends_7 rfl ?_
  refine s_getR (r := 126) hX fo_RX10_30_9 SH_123 rfl dX10_ends_8 ?_
  refine s_iload_n hX dX10_ends_11 rfl ?_
  refine s_iload_n hX dX10_ends_12 rfl ?_
  obtain ⟨c3, h⟩ := gd_some h
  obtain ⟨σ4, eσ4, h⟩ := bd_some h
  refine s_iast hX SH_126 c3 dX10_ends_13 ?_
  refine s_mem σ4 eσ4 ?_
  refine s_aload_n hX dX10_ends_14 rfl ?_
  refine s_getR (r := 127) hX fo_RX10_33_9 SH_123 rfl dX10_ends_15 ?_
  refine s_iload_n hX dX10_ends_18 rfl ?_
  refine s_iload hX dX10_ends_19 rfl ?_
  obtain ⟨c5, h⟩ := gd_some h
  obtain ⟨σ6, eσ6, h⟩ := bd_some h
  refine s_iast hX SH_127 c5 dX10_ends_21 ?_
  refine s_mem σ6 eσ6 ?_
  refine s_aload_n hX dX10_ends_22 rfl ?_
  refine s_getR (r := 128) hX fo_RX10_36_9 SH_123 rfl dX10_ends_23 ?_
  refine s_iload_n hX dX10_ends_26 rfl ?_
  refine s_iload hX dX10_ends_27 rfl ?_
  obtain ⟨c7, h⟩ := gd_some h
  obtain ⟨σ8, eσ8, h⟩ := bd_some h
  refine s_iast hX SH_128 c7 dX10_ends_29 ?_
  refine s_mem σ8 eσ8 ?_
  obtain rfl := rt1 h
  exact hret _ _ dX10_ends_30
def fX10_setEnd (σ : Mm) (l1 : Int32) (l2 : Int32) (l3 : Int32) (l4 : Int32) (l5 : Int32) : Option (Int32 × Mm) :=
  bd (upm σ 123 (upd (σ 123) 0 0)) fun σ1 =>
  (fX10_isBlock σ1 l1).bind fun r2 =>
  if r2 = 0 then
  bn2 (fX10_fails σ1 1) fun r3 σ4 =>
  some (r3, σ4)
else
  jn (fun (_u : Unit) => jn (fun (_u : Unit) => (fX10_in σ1 l2 0 2).bind fun r7 =>
  if r7 = 0 then
  bn2 (fX10_fails σ1 2) fun r8 σ9 =>
  some (r8, σ9)
else
  jn (fun (_u : Unit) => gd l1 8 <|
  bd (σ1 125 l1.toNatClampNeg) fun v12 =>
  (fX10_ends σ1 l1 l2 l3 l4 l5).bind fun σ13 =>
  bd (upm σ13 123 (upd (σ13 123) 14 0)) fun σ14 =>
  some (v12, σ14)) fun j10 =>
  if l2 = 0 then
  j10 ()
else
  (fX10_isVariable σ1 l3).bind fun r15 =>
  if r15 = 0 then
  bn2 (fX10_fails σ1 2) fun r16 σ17 =>
  some (r16, σ17)
else
  j10 ()) fun j6 =>
  if l2 = 1 then
  (fX10_isBlock σ1 l5).bind fun r21 =>
  if r21 = 0 then
  bn2 (fX10_fails σ1 1) fun r22 σ23 =>
  some (r22, σ23)
else
  j6 ()
else
  j6 ()) fun j5 =>
  jn (fun (_u : Unit) => (fX10_isBlock σ1 l4).bind fun r27 =>
  if r27 = 0 then
  bn2 (fX10_fails σ1 1) fun r28 σ29 =>
  some (r28, σ29)
else
  j5 ()) fun j26 =>
  if l2 = 0 then
  j26 ()
else
  if l2 = 1 then
  j26 ()
else
  j5 ()
set_option maxHeartbeats 4000000 in
theorem cX10_setEnd_ok (l : Launch) {σ : Mm} {l1 : Int32} {l2 : Int32} {l3 : Int32} {l4 : Int32} {l5 : Int32} {r : Int32} {σ' : Mm}  (h : fX10_setEnd σ l1 l2 l3 l4 l5 = some (r, σ')) : cI l yX10_setEnd cX10_setEnd 7 .int 2 43 (fun ad => [.ref (ad 123), .int l1, .int l2, .int l3, .int l4, .int l5]) σ r σ' := by
  refine c_enterI (fun ad => [some (.ref (ad 123)), some (.int l1), some (.int l2), some (.int l3), some (.int l4), some (.int l5), none]) (by decide) (fun ad => ⟨by simp [Value.category], Nat.le_of_ble_eq_true rfl⟩) (fun ad => ⟨1, rfl⟩) ?_
  intro X _ hX hret
  have hcs : ((0 : Nat), (0 : Nat)).1 ≤ (sR X).cells ∧ ((0 : Nat), (0 : Nat)).2 ≤ (sR X).slots := ⟨Nat.zero_le _, Nat.zero_le _⟩
  generalize hcs0 : ((0 : Nat), (0 : Nat)) = cs at hcs hret ⊢
  unfold fX10_setEnd at h
  show sW X 7 cs σ 0 [some (.ref (sad X 123)), some (.int l1), some (.int l2), some (.int l3), some (.int l4), some (.int l5), none] []
  refine s_aload_n hX dX10_setEnd_0 rfl ?_
  refine s_iconst 0 hX dX10_setEnd_1 (by decide) ?_
  obtain ⟨σ1, eσ1, h⟩ := bd_some h
  refine s_putI hX fo_RX10_1_9 SH_123 rfl dX10_setEnd_2 ?_
  refine s_mem σ1 eσ1 ?_
  refine s_aload_n hX dX10_setEnd_5 rfl ?_
  refine s_iload_n hX dX10_setEnd_6 rfl ?_
  obtain ⟨r2, hc, h⟩ := bn_some h
  refine s_callVI _ hX (cX10_isBlock_ok (sl X)  hc) SH_123 mv_RX10_221_9 (fun _ => rfl) (by decide) (Nat.le_of_ble_eq_true rfl) hcs dX10_setEnd_7 rfl ?_
  refine s_if_eq (tgt := 45) hX dX10_setEnd_10 (by decide) (fun c33 => ?_) (fun c33 => ?_)
  · replace h := (if_pos c33).symm.trans h
    refine s_aload_n hX dX10_setEnd_45 rfl ?_
    refine s_iconst 1 hX dX10_setEnd_46 (by decide) ?_
    obtain ⟨r3, σ4, hc, h⟩ := bn2_some h
    refine s_callVI _ hX (cX10_fails_ok (sl X)  hc) SH_123 mv_RX10_217_9 (fun _ => rfl) (by decide) (Nat.le_of_ble_eq_true rfl) hcs dX10_setEnd_47 rfl ?_
    obtain ⟨rfl, rfl⟩ := rt2 h
    exact hret _ _ (nzi _) dX10_setEnd_50
  · replace h := (if_neg c33).symm.trans h
    refine s_iload_n hX dX10_setEnd_13 rfl ?_
    refine jn_use (fun j => ∀ (_u : Unit), j _u = some (r, σ') → sW X 7 cs σ1 31 [some (.ref (sad X 123)), some (.int l1), some (.int l2), some (.int l3), some (.int l4), some (.int l5), none] []) h ?_ ?_
    · intro _u h
      refine s_iload_n hX dX10_setEnd_31 rfl ?_
      refine s_iconst 1 hX dX10_setEnd_32 (by decide) ?_
      refine jn_use (fun j => ∀ (_u : Unit), j _u = some (r, σ') → sW X 7 cs σ1 51 [some (.ref (sad X 123)), some (.int l1), some (.int l2), some (.int l3), some (.int l4), some (.int l5), none] []) h ?_ ?_
      · intro _u h
        refine s_iload_n hX dX10_setEnd_51 rfl ?_
        refine s_iconst 0 hX dX10_setEnd_52 (by decide) ?_
        refine s_iconst 2 hX dX10_setEnd_53 (by decide) ?_
        obtain ⟨r7, hc, h⟩ := bn_some h
        refine s_callSI _ hX (cX10_in_ok (sl X)  hc) ms_RX10_7 (fun _ => rfl) (by decide) (Nat.le_of_ble_eq_true rfl) hcs dX10_setEnd_54 rfl ?_
        refine s_if_eq (tgt := 71) hX dX10_setEnd_57 (by decide) (fun c20 => ?_) (fun c20 => ?_)
        · replace h := (if_pos c20).symm.trans h
          refine s_aload_n hX dX10_setEnd_71 rfl ?_
          refine s_iconst 2 hX dX10_setEnd_72 (by decide) ?_
          obtain ⟨r8, σ9, hc, h⟩ := bn2_some h
          refine s_callVI _ hX (cX10_fails_ok (sl X)  hc) SH_123 mv_RX10_217_9 (fun _ => rfl) (by decide) (Nat.le_of_ble_eq_true rfl) hcs dX10_setEnd_73 rfl ?_
          obtain ⟨rfl, rfl⟩ := rt2 h
          exact hret _ _ (nzi _) dX10_setEnd_76
        · replace h := (if_neg c20).symm.trans h
          refine s_iload_n hX dX10_setEnd_60 rfl ?_
          refine jn_use (fun j => ∀ (_u : Unit), j _u = some (r, σ') → sW X 7 cs σ1 77 [some (.ref (sad X 123)), some (.int l1), some (.int l2), some (.int l3), some (.int l4), some (.int l5), none] []) h ?_ ?_
          · intro _u h
            refine s_aload_n hX dX10_setEnd_77 rfl ?_
            refine s_getR (r := 125) hX fo_RX10_27_9 SH_123 rfl dX10_setEnd_78 ?_
            refine s_iload_n hX dX10_setEnd_81 rfl ?_
            obtain ⟨c11, h⟩ := gd_some h
            refine s_iald hX SH_125 c11 dX10_setEnd_82 ?_
            obtain ⟨v12, ev12, h⟩ := bd_some h
            refine s_topi v12 ev12 ?_
            refine s_istore hX dX10_setEnd_83 (by decide) ?_
            refine s_aload_n hX dX10_setEnd_85 rfl ?_
            refine s_iload_n hX dX10_setEnd_86 rfl ?_
            refine s_iload_n hX dX10_setEnd_87 rfl ?_
            refine s_iload_n hX dX10_setEnd_88 rfl ?_
            refine s_iload hX dX10_setEnd_89 rfl ?_
            refine s_iload hX dX10_setEnd_91 rfl ?_
            obtain ⟨σ13, hc, h⟩ := bn_some h
            refine s_callVV _ hX (cX10_ends_ok (sl X)  hc) SH_123 mv_RX10_232_9 (fun _ => rfl) (by decide) (Nat.le_of_ble_eq_true rfl) hcs dX10_setEnd_93 rfl ?_
            refine s_aload_n hX dX10_setEnd_96 rfl ?_
            refine s_iconst 0 hX dX10_setEnd_97 (by decide) ?_
            obtain ⟨σ14, eσ14, h⟩ := bd_some h
            refine s_putZ hX fo_RX10_57_9 SH_123 rfl (Or.inl rfl) dX10_setEnd_98 ?_
            refine s_mem σ14 eσ14 ?_
            refine s_iload hX dX10_setEnd_101 rfl ?_
            obtain ⟨rfl, rfl⟩ := rt2 h
            exact hret _ _ (nzi _) dX10_setEnd_103
          · intro j10 hj10 h
            refine s_if_eq (tgt := 77) hX dX10_setEnd_61 (by decide) (fun c19 => ?_) (fun c19 => ?_)
            · replace h := (if_pos c19).symm.trans h
              refine s_mask [true, true, true, true, true, true, false] ?_
              exact hj10 _ h
            · replace h := (if_neg c19).symm.trans h
              refine s_iload_n hX dX10_setEnd_64 rfl ?_
              obtain ⟨r15, hc, h⟩ := bn_some h
              refine s_callSI _ hX (cX10_isVariable_ok (sl X)  hc) ms_RX10_225 (fun _ => rfl) (by decide) (Nat.le_of_ble_eq_true rfl) hcs dX10_setEnd_65 rfl ?_
              refine s_if_ne (tgt := 77) hX dX10_setEnd_68 (by decide) (fun c18 => ?_) (fun c18 => ?_)
              · replace h := (if_neg c18).symm.trans h
                refine s_mask [true, true, true, true, true, true, false] ?_
                exact hj10 _ h
              · replace h := (if_pos c18).symm.trans h
                refine s_aload_n hX dX10_setEnd_71 rfl ?_
                refine s_iconst 2 hX dX10_setEnd_72 (by decide) ?_
                obtain ⟨r16, σ17, hc, h⟩ := bn2_some h
                refine s_callVI _ hX (cX10_fails_ok (sl X)  hc) SH_123 mv_RX10_217_9 (fun _ => rfl) (by decide) (Nat.le_of_ble_eq_true rfl) hcs dX10_setEnd_73 rfl ?_
                obtain ⟨rfl, rfl⟩ := rt2 h
                exact hret _ _ (nzi _) dX10_setEnd_76
      · intro j6 hj6 h
        refine s_ic_ne (tgt := 51) hX dX10_setEnd_33 (by decide) (fun c25 => ?_) (fun c25 => ?_)
        · replace h := (if_neg c25).symm.trans h
          refine s_mask [true, true, true, true, true, true, false] ?_
          exact hj6 _ h
        · replace h := (if_pos c25).symm.trans h
          refine s_aload_n hX dX10_setEnd_36 rfl ?_
          refine s_iload hX dX10_setEnd_37 rfl ?_
          obtain ⟨r21, hc, h⟩ := bn_some h
          refine s_callVI _ hX (cX10_isBlock_ok (sl X)  hc) SH_123 mv_RX10_221_9 (fun _ => rfl) (by decide) (Nat.le_of_ble_eq_true rfl) hcs dX10_setEnd_39 rfl ?_
          refine s_if_ne (tgt := 51) hX dX10_setEnd_42 (by decide) (fun c24 => ?_) (fun c24 => ?_)
          · replace h := (if_neg c24).symm.trans h
            refine s_mask [true, true, true, true, true, true, false] ?_
            exact hj6 _ h
          · replace h := (if_pos c24).symm.trans h
            refine s_aload_n hX dX10_setEnd_45 rfl ?_
            refine s_iconst 1 hX dX10_setEnd_46 (by decide) ?_
            obtain ⟨r22, σ23, hc, h⟩ := bn2_some h
            refine s_callVI _ hX (cX10_fails_ok (sl X)  hc) SH_123 mv_RX10_217_9 (fun _ => rfl) (by decide) (Nat.le_of_ble_eq_true rfl) hcs dX10_setEnd_47 rfl ?_
            obtain ⟨rfl, rfl⟩ := rt2 h
            exact hret _ _ (nzi _) dX10_setEnd_50
    · intro j5 hj5 h
      refine jn_use (fun j => ∀ (_u : Unit), j _u = some (r, σ') → sW X 7 cs σ1 22 [some (.ref (sad X 123)), some (.int l1), some (.int l2), some (.int l3), some (.int l4), some (.int l5), none] []) h ?_ ?_
      · intro _u h
        refine s_aload_n hX dX10_setEnd_22 rfl ?_
        refine s_iload hX dX10_setEnd_23 rfl ?_
        obtain ⟨r27, hc, h⟩ := bn_some h
        refine s_callVI _ hX (cX10_isBlock_ok (sl X)  hc) SH_123 mv_RX10_221_9 (fun _ => rfl) (by decide) (Nat.le_of_ble_eq_true rfl) hcs dX10_setEnd_25 rfl ?_
        refine s_if_eq (tgt := 45) hX dX10_setEnd_28 (by decide) (fun c30 => ?_) (fun c30 => ?_)
        · replace h := (if_pos c30).symm.trans h
          refine s_aload_n hX dX10_setEnd_45 rfl ?_
          refine s_iconst 1 hX dX10_setEnd_46 (by decide) ?_
          obtain ⟨r28, σ29, hc, h⟩ := bn2_some h
          refine s_callVI _ hX (cX10_fails_ok (sl X)  hc) SH_123 mv_RX10_217_9 (fun _ => rfl) (by decide) (Nat.le_of_ble_eq_true rfl) hcs dX10_setEnd_47 rfl ?_
          obtain ⟨rfl, rfl⟩ := rt2 h
          exact hret _ _ (nzi _) dX10_setEnd_50
        · replace h := (if_neg c30).symm.trans h
          refine s_mask [true, true, true, true, true, true, false] ?_
          exact hj5 _ h
      · intro j26 hj26 h
        refine s_if_eq (tgt := 22) hX dX10_setEnd_14 (by decide) (fun c32 => ?_) (fun c32 => ?_)
        · replace h := (if_pos c32).symm.trans h
          refine s_mask [true, true, true, true, true, true, false] ?_
          exact hj26 _ h
        · replace h := (if_neg c32).symm.trans h
          refine s_iload_n hX dX10_setEnd_17 rfl ?_
          refine s_iconst 1 hX dX10_setEnd_18 (by decide) ?_
          refine s_ic_ne (tgt := 31) hX dX10_setEnd_19 (by decide) (fun c31 => ?_) (fun c31 => ?_)
          · replace h := (if_neg c31).symm.trans h
            refine s_mask [true, true, true, true, true, true, false] ?_
            exact hj5 _ h
          · replace h := (if_pos c31).symm.trans h
            refine s_mask [true, true, true, true, true, true, false] ?_
            exact hj26 _ h
def fX10_setFrequency (σ : Mm) (l1 : Int32) (l2 : Int32) : Option (Int32 × Mm) :=
  bd (upm σ 123 (upd (σ 123) 0 0)) fun σ1 =>
  (fX10_isBlock σ1 l1).bind fun r2 =>
  if r2 = 0 then
  bn2 (fX10_fails σ1 1) fun r12 σ13 =>
  some (r12, σ13)
else
  (fX10_in σ1 l2 1 9999).bind fun r3 =>
  if r3 = 0 then
  bn2 (fX10_fails σ1 2) fun r9 σ10 =>
  some (r9, σ10)
else
  gd l1 8 <|
  bd (σ1 129 l1.toNatClampNeg) fun v5 =>
  gd l1 8 <|
  bd (upm σ1 129 (upd (σ1 129) l1.toNatClampNeg l2)) fun σ7 =>
  bd (upm σ7 123 (upd (σ7 123) 14 0)) fun σ8 =>
  some (v5, σ8)
set_option maxHeartbeats 4000000 in
theorem cX10_setFrequency_ok (l : Launch) {σ : Mm} {l1 : Int32} {l2 : Int32} {r : Int32} {σ' : Mm}  (h : fX10_setFrequency σ l1 l2 = some (r, σ')) : cI l yX10_setFrequency cX10_setFrequency 4 .int 2 43 (fun ad => [.ref (ad 123), .int l1, .int l2]) σ r σ' := by
  refine c_enterI (fun ad => [some (.ref (ad 123)), some (.int l1), some (.int l2), none]) (by decide) (fun ad => ⟨by simp [Value.category], Nat.le_of_ble_eq_true rfl⟩) (fun ad => ⟨1, rfl⟩) ?_
  intro X _ hX hret
  have hcs : ((0 : Nat), (0 : Nat)).1 ≤ (sR X).cells ∧ ((0 : Nat), (0 : Nat)).2 ≤ (sR X).slots := ⟨Nat.zero_le _, Nat.zero_le _⟩
  generalize hcs0 : ((0 : Nat), (0 : Nat)) = cs at hcs hret ⊢
  unfold fX10_setFrequency at h
  show sW X 4 cs σ 0 [some (.ref (sad X 123)), some (.int l1), some (.int l2), none] []
  refine s_aload_n hX dX10_setFrequency_0 rfl ?_
  refine s_iconst 0 hX dX10_setFrequency_1 (by decide) ?_
  obtain ⟨σ1, eσ1, h⟩ := bd_some h
  refine s_putI hX fo_RX10_1_9 SH_123 rfl dX10_setFrequency_2 ?_
  refine s_mem σ1 eσ1 ?_
  refine s_aload_n hX dX10_setFrequency_5 rfl ?_
  refine s_iload_n hX dX10_setFrequency_6 rfl ?_
  obtain ⟨r2, hc, h⟩ := bn_some h
  refine s_callVI _ hX (cX10_isBlock_ok (sl X)  hc) SH_123 mv_RX10_221_9 (fun _ => rfl) (by decide) (Nat.le_of_ble_eq_true rfl) hcs dX10_setFrequency_7 rfl ?_
  refine s_if_ne (tgt := 19) hX dX10_setFrequency_10 (by decide) (fun c14 => ?_) (fun c14 => ?_)
  · replace h := (if_neg c14).symm.trans h
    refine s_iload_n hX dX10_setFrequency_19 rfl ?_
    refine s_iconst 1 hX dX10_setFrequency_20 (by decide) ?_
    refine s_sipush 9999 hX dX10_setFrequency_21 (by decide) ?_
    obtain ⟨r3, hc, h⟩ := bn_some h
    refine s_callSI _ hX (cX10_in_ok (sl X)  hc) ms_RX10_7 (fun _ => rfl) (by decide) (Nat.le_of_ble_eq_true rfl) hcs dX10_setFrequency_24 rfl ?_
    refine s_if_ne (tgt := 36) hX dX10_setFrequency_27 (by decide) (fun c11 => ?_) (fun c11 => ?_)
    · replace h := (if_neg c11).symm.trans h
      refine s_aload_n hX dX10_setFrequency_36 rfl ?_
      refine s_getR (r := 129) hX fo_RX10_39_9 SH_123 rfl dX10_setFrequency_37 ?_
      refine s_iload_n hX dX10_setFrequency_40 rfl ?_
      obtain ⟨c4, h⟩ := gd_some h
      refine s_iald hX SH_129 c4 dX10_setFrequency_41 ?_
      obtain ⟨v5, ev5, h⟩ := bd_some h
      refine s_topi v5 ev5 ?_
      refine s_istore_n hX dX10_setFrequency_42 (by decide) ?_
      refine s_aload_n hX dX10_setFrequency_43 rfl ?_
      refine s_getR (r := 129) hX fo_RX10_39_9 SH_123 rfl dX10_setFrequency_44 ?_
      refine s_iload_n hX dX10_setFrequency_47 rfl ?_
      refine s_iload_n hX dX10_setFrequency_48 rfl ?_
      obtain ⟨c6, h⟩ := gd_some h
      obtain ⟨σ7, eσ7, h⟩ := bd_some h
      refine s_iast hX SH_129 c6 dX10_setFrequency_49 ?_
      refine s_mem σ7 eσ7 ?_
      refine s_aload_n hX dX10_setFrequency_50 rfl ?_
      refine s_iconst 0 hX dX10_setFrequency_51 (by decide) ?_
      obtain ⟨σ8, eσ8, h⟩ := bd_some h
      refine s_putZ hX fo_RX10_57_9 SH_123 rfl (Or.inl rfl) dX10_setFrequency_52 ?_
      refine s_mem σ8 eσ8 ?_
      refine s_iload_n hX dX10_setFrequency_55 rfl ?_
      obtain ⟨rfl, rfl⟩ := rt2 h
      exact hret _ _ (nzi _) dX10_setFrequency_56
    · replace h := (if_pos c11).symm.trans h
      refine s_aload_n hX dX10_setFrequency_30 rfl ?_
      refine s_iconst 2 hX dX10_setFrequency_31 (by decide) ?_
      obtain ⟨r9, σ10, hc, h⟩ := bn2_some h
      refine s_callVI _ hX (cX10_fails_ok (sl X)  hc) SH_123 mv_RX10_217_9 (fun _ => rfl) (by decide) (Nat.le_of_ble_eq_true rfl) hcs dX10_setFrequency_32 rfl ?_
      obtain ⟨rfl, rfl⟩ := rt2 h
      exact hret _ _ (nzi _) dX10_setFrequency_35
  · replace h := (if_pos c14).symm.trans h
    refine s_aload_n hX dX10_setFrequency_13 rfl ?_
    refine s_iconst 1 hX dX10_setFrequency_14 (by decide) ?_
    obtain ⟨r12, σ13, hc, h⟩ := bn2_some h
    refine s_callVI _ hX (cX10_fails_ok (sl X)  hc) SH_123 mv_RX10_217_9 (fun _ => rfl) (by decide) (Nat.le_of_ble_eq_true rfl) hcs dX10_setFrequency_15 rfl ?_
    obtain ⟨rfl, rfl⟩ := rt2 h
    exact hret _ _ (nzi _) dX10_setFrequency_18
def fX10_setInitial (σ : Mm) (l1 : Int32) (l2 : Int32) : Option (Int32 × Mm) :=
  bd (upm σ 123 (upd (σ 123) 0 0)) fun σ1 =>
  (fX10_isVariable σ1 l1).bind fun r2 =>
  if r2 = 0 then
  bn2 (fX10_fails σ1 1) fun r8 σ9 =>
  some (r8, σ9)
else
  gd l1 12 <|
  bd (σ1 134 l1.toNatClampNeg) fun v4 =>
  gd l1 12 <|
  bd (upm σ1 134 (upd (σ1 134) l1.toNatClampNeg l2)) fun σ6 =>
  bd (upm σ6 123 (upd (σ6 123) 14 0)) fun σ7 =>
  some (v4, σ7)
set_option maxHeartbeats 4000000 in
theorem cX10_setInitial_ok (l : Launch) {σ : Mm} {l1 : Int32} {l2 : Int32} {r : Int32} {σ' : Mm}  (h : fX10_setInitial σ l1 l2 = some (r, σ')) : cI l yX10_setInitial cX10_setInitial 4 .int 2 42 (fun ad => [.ref (ad 123), .int l1, .int l2]) σ r σ' := by
  refine c_enterI (fun ad => [some (.ref (ad 123)), some (.int l1), some (.int l2), none]) (by decide) (fun ad => ⟨by simp [Value.category], Nat.le_of_ble_eq_true rfl⟩) (fun ad => ⟨1, rfl⟩) ?_
  intro X _ hX hret
  have hcs : ((0 : Nat), (0 : Nat)).1 ≤ (sR X).cells ∧ ((0 : Nat), (0 : Nat)).2 ≤ (sR X).slots := ⟨Nat.zero_le _, Nat.zero_le _⟩
  generalize hcs0 : ((0 : Nat), (0 : Nat)) = cs at hcs hret ⊢
  unfold fX10_setInitial at h
  show sW X 4 cs σ 0 [some (.ref (sad X 123)), some (.int l1), some (.int l2), none] []
  refine s_aload_n hX dX10_setInitial_0 rfl ?_
  refine s_iconst 0 hX dX10_setInitial_1 (by decide) ?_
  obtain ⟨σ1, eσ1, h⟩ := bd_some h
  refine s_putI hX fo_RX10_1_9 SH_123 rfl dX10_setInitial_2 ?_
  refine s_mem σ1 eσ1 ?_
  refine s_iload_n hX dX10_setInitial_5 rfl ?_
  obtain ⟨r2, hc, h⟩ := bn_some h
  refine s_callSI _ hX (cX10_isVariable_ok (sl X)  hc) ms_RX10_225 (fun _ => rfl) (by decide) (Nat.le_of_ble_eq_true rfl) hcs dX10_setInitial_6 rfl ?_
  refine s_if_ne (tgt := 18) hX dX10_setInitial_9 (by decide) (fun c10 => ?_) (fun c10 => ?_)
  · replace h := (if_neg c10).symm.trans h
    refine s_aload_n hX dX10_setInitial_18 rfl ?_
    refine s_getR (r := 134) hX fo_RX10_54_9 SH_123 rfl dX10_setInitial_19 ?_
    refine s_iload_n hX dX10_setInitial_22 rfl ?_
    obtain ⟨c3, h⟩ := gd_some h
    refine s_iald hX SH_134 c3 dX10_setInitial_23 ?_
    obtain ⟨v4, ev4, h⟩ := bd_some h
    refine s_topi v4 ev4 ?_
    refine s_istore_n hX dX10_setInitial_24 (by decide) ?_
    refine s_aload_n hX dX10_setInitial_25 rfl ?_
    refine s_getR (r := 134) hX fo_RX10_54_9 SH_123 rfl dX10_setInitial_26 ?_
    refine s_iload_n hX dX10_setInitial_29 rfl ?_
    refine s_iload_n hX dX10_setInitial_30 rfl ?_
    obtain ⟨c5, h⟩ := gd_some h
    obtain ⟨σ6, eσ6, h⟩ := bd_some h
    refine s_iast hX SH_134 c5 dX10_setInitial_31 ?_
    refine s_mem σ6 eσ6 ?_
    refine s_aload_n hX dX10_setInitial_32 rfl ?_
    refine s_iconst 0 hX dX10_setInitial_33 (by decide) ?_
    obtain ⟨σ7, eσ7, h⟩ := bd_some h
    refine s_putZ hX fo_RX10_57_9 SH_123 rfl (Or.inl rfl) dX10_setInitial_34 ?_
    refine s_mem σ7 eσ7 ?_
    refine s_iload_n hX dX10_setInitial_37 rfl ?_
    obtain ⟨rfl, rfl⟩ := rt2 h
    exact hret _ _ (nzi _) dX10_setInitial_38
  · replace h := (if_pos c10).symm.trans h
    refine s_aload_n hX dX10_setInitial_12 rfl ?_
    refine s_iconst 1 hX dX10_setInitial_13 (by decide) ?_
    obtain ⟨r8, σ9, hc, h⟩ := bn2_some h
    refine s_callVI _ hX (cX10_fails_ok (sl X)  hc) SH_123 mv_RX10_217_9 (fun _ => rfl) (by decide) (Nat.le_of_ble_eq_true rfl) hcs dX10_setInitial_14 rfl ?_
    obtain ⟨rfl, rfl⟩ := rt2 h
    exact hret _ _ (nzi _) dX10_setInitial_17
def fX10_instruction (σ : Mm) (l1 : Int32) (l2 : Int32) (l3 : Int32) : Option (Int32 × Mm) :=
  bd (upm σ 123 (upd (σ 123) 0 0)) fun σ1 =>
  (fX10_isBlock σ1 l1).bind fun r2 =>
  if r2 = 0 then
  bn2 (fX10_fails σ1 1) fun r3 σ4 =>
  some (r3, σ4)
else
  gd l1 8 <|
  (fX10_in σ1 l2 0 ((σ1 124 l1.toNatClampNeg) - 1)).bind fun r6 =>
  if r6 = 0 then
  bn2 (fX10_fails σ1 1) fun r18 σ19 =>
  some (r18, σ19)
else
  bd ((8 * l1) + l2) fun v7 =>
  if l3 = 0 then
  gd v7 64 <|
  some (σ1 130 v7.toNatClampNeg, σ1)
else if l3 = 1 then
  gd v7 64 <|
  some (σ1 131 v7.toNatClampNeg, σ1)
else if l3 = 2 then
  gd v7 64 <|
  some (σ1 132 v7.toNatClampNeg, σ1)
else if l3 = 3 then
  gd v7 64 <|
  some (σ1 133 v7.toNatClampNeg, σ1)
else 
  bn2 (fX10_fails σ1 2) fun r16 σ17 =>
  some (r16, σ17)
set_option maxHeartbeats 4000000 in
theorem cX10_instruction_ok (l : Launch) {σ : Mm} {l1 : Int32} {l2 : Int32} {l3 : Int32} {r : Int32} {σ' : Mm}  (h : fX10_instruction σ l1 l2 l3 = some (r, σ')) : cI l yX10_instruction cX10_instruction 5 .int 2 43 (fun ad => [.ref (ad 123), .int l1, .int l2, .int l3]) σ r σ' := by
  refine c_enterI (fun ad => [some (.ref (ad 123)), some (.int l1), some (.int l2), some (.int l3), none]) (by decide) (fun ad => ⟨by simp [Value.category], Nat.le_of_ble_eq_true rfl⟩) (fun ad => ⟨1, rfl⟩) ?_
  intro X _ hX hret
  have hcs : ((0 : Nat), (0 : Nat)).1 ≤ (sR X).cells ∧ ((0 : Nat), (0 : Nat)).2 ≤ (sR X).slots := ⟨Nat.zero_le _, Nat.zero_le _⟩
  generalize hcs0 : ((0 : Nat), (0 : Nat)) = cs at hcs hret ⊢
  unfold fX10_instruction at h
  show sW X 5 cs σ 0 [some (.ref (sad X 123)), some (.int l1), some (.int l2), some (.int l3), none] []
  refine s_aload_n hX dX10_instruction_0 rfl ?_
  refine s_iconst 0 hX dX10_instruction_1 (by decide) ?_
  obtain ⟨σ1, eσ1, h⟩ := bd_some h
  refine s_putI hX fo_RX10_1_9 SH_123 rfl dX10_instruction_2 ?_
  refine s_mem σ1 eσ1 ?_
  refine s_aload_n hX dX10_instruction_5 rfl ?_
  refine s_iload_n hX dX10_instruction_6 rfl ?_
  obtain ⟨r2, hc, h⟩ := bn_some h
  refine s_callVI _ hX (cX10_isBlock_ok (sl X)  hc) SH_123 mv_RX10_221_9 (fun _ => rfl) (by decide) (Nat.le_of_ble_eq_true rfl) hcs dX10_instruction_7 rfl ?_
  refine s_if_eq (tgt := 29) hX dX10_instruction_10 (by decide) (fun c21 => ?_) (fun c21 => ?_)
  · replace h := (if_pos c21).symm.trans h
    refine s_aload_n hX dX10_instruction_29 rfl ?_
    refine s_iconst 1 hX dX10_instruction_30 (by decide) ?_
    obtain ⟨r3, σ4, hc, h⟩ := bn2_some h
    refine s_callVI _ hX (cX10_fails_ok (sl X)  hc) SH_123 mv_RX10_217_9 (fun _ => rfl) (by decide) (Nat.le_of_ble_eq_true rfl) hcs dX10_instruction_31 rfl ?_
    obtain ⟨rfl, rfl⟩ := rt2 h
    exact hret _ _ (nzi _) dX10_instruction_34
  · replace h := (if_neg c21).symm.trans h
    refine s_iload_n hX dX10_instruction_13 rfl ?_
    refine s_iconst 0 hX dX10_instruction_14 (by decide) ?_
    refine s_aload_n hX dX10_instruction_15 rfl ?_
    refine s_getR (r := 124) hX fo_RX10_23_9 SH_123 rfl dX10_instruction_16 ?_
    refine s_iload_n hX dX10_instruction_19 rfl ?_
    obtain ⟨c5, h⟩ := gd_some h
    refine s_iald hX SH_124 c5 dX10_instruction_20 ?_
    refine s_iconst 1 hX dX10_instruction_21 (by decide) ?_
    refine s_isub hX dX10_instruction_22 ?_
    obtain ⟨r6, hc, h⟩ := bn_some h
    refine s_callSI _ hX (cX10_in_ok (sl X)  hc) ms_RX10_7 (fun _ => rfl) (by decide) (Nat.le_of_ble_eq_true rfl) hcs dX10_instruction_23 rfl ?_
    refine s_if_ne (tgt := 35) hX dX10_instruction_26 (by decide) (fun c20 => ?_) (fun c20 => ?_)
    · replace h := (if_neg c20).symm.trans h
      refine s_bipush 8 hX dX10_instruction_35 (by decide) ?_
      refine s_iload_n hX dX10_instruction_37 rfl ?_
      refine s_imul hX dX10_instruction_38 ?_
      refine s_iload_n hX dX10_instruction_39 rfl ?_
      refine s_iadd hX dX10_instruction_40 ?_
      obtain ⟨v7, ev7, h⟩ := bd_some h
      refine s_topi v7 ev7 ?_
      refine s_istore hX dX10_instruction_41 (by decide) ?_
      refine s_iload_n hX dX10_instruction_43 rfl ?_
      by_cases c9 : l3 = 0
      · replace h := (if_pos c9).symm.trans h
        refine s_tswIn (tgt := 76) hX dX10_instruction_44 (v := 0) c9 (by decide) (by decide) rfl (by decide) ?_
        refine s_aload_n hX dX10_instruction_76 rfl ?_
        refine s_getR (r := 130) hX fo_RX10_42_9 SH_123 rfl dX10_instruction_77 ?_
        refine s_iload hX dX10_instruction_80 rfl ?_
        obtain ⟨c8, h⟩ := gd_some h
        refine s_iald hX SH_130 c8 dX10_instruction_82 ?_
        obtain ⟨rfl, rfl⟩ := rt2 h
        exact hret _ _ (nzi _) dX10_instruction_83
      · replace h := (if_neg c9).symm.trans h
        by_cases c11 : l3 = 1
        · replace h := (if_pos c11).symm.trans h
          refine s_tswIn (tgt := 84) hX dX10_instruction_44 (v := 1) c11 (by decide) (by decide) rfl (by decide) ?_
          refine s_aload_n hX dX10_instruction_84 rfl ?_
          refine s_getR (r := 131) hX fo_RX10_45_9 SH_123 rfl dX10_instruction_85 ?_
          refine s_iload hX dX10_instruction_88 rfl ?_
          obtain ⟨c10, h⟩ := gd_some h
          refine s_iald hX SH_131 c10 dX10_instruction_90 ?_
          obtain ⟨rfl, rfl⟩ := rt2 h
          exact hret _ _ (nzi _) dX10_instruction_91
        · replace h := (if_neg c11).symm.trans h
          by_cases c13 : l3 = 2
          · replace h := (if_pos c13).symm.trans h
            refine s_tswIn (tgt := 92) hX dX10_instruction_44 (v := 2) c13 (by decide) (by decide) rfl (by decide) ?_
            refine s_aload_n hX dX10_instruction_92 rfl ?_
            refine s_getR (r := 132) hX fo_RX10_48_9 SH_123 rfl dX10_instruction_93 ?_
            refine s_iload hX dX10_instruction_96 rfl ?_
            obtain ⟨c12, h⟩ := gd_some h
            refine s_iald hX SH_132 c12 dX10_instruction_98 ?_
            obtain ⟨rfl, rfl⟩ := rt2 h
            exact hret _ _ (nzi _) dX10_instruction_99
          · replace h := (if_neg c13).symm.trans h
            by_cases c15 : l3 = 3
            · replace h := (if_pos c15).symm.trans h
              refine s_tswIn (tgt := 100) hX dX10_instruction_44 (v := 3) c15 (by decide) (by decide) rfl (by decide) ?_
              refine s_aload_n hX dX10_instruction_100 rfl ?_
              refine s_getR (r := 133) hX fo_RX10_51_9 SH_123 rfl dX10_instruction_101 ?_
              refine s_iload hX dX10_instruction_104 rfl ?_
              obtain ⟨c14, h⟩ := gd_some h
              refine s_iald hX SH_133 c14 dX10_instruction_106 ?_
              obtain ⟨rfl, rfl⟩ := rt2 h
              exact hret _ _ (nzi _) dX10_instruction_107
            · replace h := (if_neg c15).symm.trans h
              refine s_tswOut (tgt := 108) hX dX10_instruction_44 (tsw_out0_3 l3 c9 c11 c13 c15) (by decide) ?_
              refine s_aload_n hX dX10_instruction_108 rfl ?_
              refine s_iconst 2 hX dX10_instruction_109 (by decide) ?_
              obtain ⟨r16, σ17, hc, h⟩ := bn2_some h
              refine s_callVI _ hX (cX10_fails_ok (sl X)  hc) SH_123 mv_RX10_217_9 (fun _ => rfl) (by decide) (Nat.le_of_ble_eq_true rfl) hcs dX10_instruction_110 rfl ?_
              obtain ⟨rfl, rfl⟩ := rt2 h
              exact hret _ _ (nzi _) dX10_instruction_113
    · replace h := (if_pos c20).symm.trans h
      refine s_aload_n hX dX10_instruction_29 rfl ?_
      refine s_iconst 1 hX dX10_instruction_30 (by decide) ?_
      obtain ⟨r18, σ19, hc, h⟩ := bn2_some h
      refine s_callVI _ hX (cX10_fails_ok (sl X)  hc) SH_123 mv_RX10_217_9 (fun _ => rfl) (by decide) (Nat.le_of_ble_eq_true rfl) hcs dX10_instruction_31 rfl ?_
      obtain ⟨rfl, rfl⟩ := rt2 h
      exact hret _ _ (nzi _) dX10_instruction_34
def fX10_block (σ : Mm) (l1 : Int32) (l2 : Int32) : Option (Int32 × Mm) :=
  bd (upm σ 123 (upd (σ 123) 0 0)) fun σ1 =>
  (fX10_isBlock σ1 l1).bind fun r2 =>
  if r2 = 0 then
  bn2 (fX10_fails σ1 1) fun r23 σ24 =>
  some (r23, σ24)
else
  if l2 = 0 then
  gd l1 8 <|
  some (σ1 124 l1.toNatClampNeg, σ1)
else if l2 = 1 then
  gd l1 8 <|
  some (σ1 125 l1.toNatClampNeg, σ1)
else if l2 = 2 then
  gd l1 8 <|
  if (σ1 125 l1.toNatClampNeg) = 0 then
  some ((-1), σ1)
else
  gd l1 8 <|
  some (σ1 126 l1.toNatClampNeg, σ1)
else if l2 = 3 then
  gd l1 8 <|
  if (σ1 125 l1.toNatClampNeg) = 2 then
  some ((-1), σ1)
else
  gd l1 8 <|
  some (σ1 127 l1.toNatClampNeg, σ1)
else if l2 = 4 then
  gd l1 8 <|
  if (σ1 125 l1.toNatClampNeg) = 1 then
  gd l1 8 <|
  some (σ1 128 l1.toNatClampNeg, σ1)
else
  some ((-1), σ1)
else if l2 = 5 then
  gd l1 8 <|
  some (σ1 129 l1.toNatClampNeg, σ1)
else 
  bn2 (fX10_fails σ1 2) fun r21 σ22 =>
  some (r21, σ22)
set_option maxHeartbeats 4000000 in
theorem cX10_block_ok (l : Launch) {σ : Mm} {l1 : Int32} {l2 : Int32} {r : Int32} {σ' : Mm}  (h : fX10_block σ l1 l2 = some (r, σ')) : cI l yX10_block cX10_block 3 .int 2 43 (fun ad => [.ref (ad 123), .int l1, .int l2]) σ r σ' := by
  refine c_enterI (fun ad => [some (.ref (ad 123)), some (.int l1), some (.int l2)]) (by decide) (fun ad => ⟨by simp [Value.category], Nat.le_of_ble_eq_true rfl⟩) (fun ad => ⟨0, rfl⟩) ?_
  intro X _ hX hret
  have hcs : ((0 : Nat), (0 : Nat)).1 ≤ (sR X).cells ∧ ((0 : Nat), (0 : Nat)).2 ≤ (sR X).slots := ⟨Nat.zero_le _, Nat.zero_le _⟩
  generalize hcs0 : ((0 : Nat), (0 : Nat)) = cs at hcs hret ⊢
  unfold fX10_block at h
  show sW X 3 cs σ 0 [some (.ref (sad X 123)), some (.int l1), some (.int l2)] []
  refine s_aload_n hX dX10_block_0 rfl ?_
  refine s_iconst 0 hX dX10_block_1 (by decide) ?_
  obtain ⟨σ1, eσ1, h⟩ := bd_some h
  refine s_putI hX fo_RX10_1_9 SH_123 rfl dX10_block_2 ?_
  refine s_mem σ1 eσ1 ?_
  refine s_aload_n hX dX10_block_5 rfl ?_
  refine s_iload_n hX dX10_block_6 rfl ?_
  obtain ⟨r2, hc, h⟩ := bn_some h
  refine s_callVI _ hX (cX10_isBlock_ok (sl X)  hc) SH_123 mv_RX10_221_9 (fun _ => rfl) (by decide) (Nat.le_of_ble_eq_true rfl) hcs dX10_block_7 rfl ?_
  refine s_if_ne (tgt := 19) hX dX10_block_10 (by decide) (fun c25 => ?_) (fun c25 => ?_)
  · replace h := (if_neg c25).symm.trans h
    refine s_iload_n hX dX10_block_19 rfl ?_
    by_cases c4 : l2 = 0
    · replace h := (if_pos c4).symm.trans h
      refine s_tswIn (tgt := 60) hX dX10_block_20 (v := 0) c4 (by decide) (by decide) rfl (by decide) ?_
      refine s_aload_n hX dX10_block_60 rfl ?_
      refine s_getR (r := 124) hX fo_RX10_23_9 SH_123 rfl dX10_block_61 ?_
      refine s_iload_n hX dX10_block_64 rfl ?_
      obtain ⟨c3, h⟩ := gd_some h
      refine s_iald hX SH_124 c3 dX10_block_65 ?_
      obtain ⟨rfl, rfl⟩ := rt2 h
      exact hret _ _ (nzi _) dX10_block_66
    · replace h := (if_neg c4).symm.trans h
      by_cases c6 : l2 = 1
      · replace h := (if_pos c6).symm.trans h
        refine s_tswIn (tgt := 67) hX dX10_block_20 (v := 1) c6 (by decide) (by decide) rfl (by decide) ?_
        refine s_aload_n hX dX10_block_67 rfl ?_
        refine s_getR (r := 125) hX fo_RX10_27_9 SH_123 rfl dX10_block_68 ?_
        refine s_iload_n hX dX10_block_71 rfl ?_
        obtain ⟨c5, h⟩ := gd_some h
        refine s_iald hX SH_125 c5 dX10_block_72 ?_
        obtain ⟨rfl, rfl⟩ := rt2 h
        exact hret _ _ (nzi _) dX10_block_73
      · replace h := (if_neg c6).symm.trans h
        by_cases c10 : l2 = 2
        · replace h := (if_pos c10).symm.trans h
          refine s_tswIn (tgt := 74) hX dX10_block_20 (v := 2) c10 (by decide) (by decide) rfl (by decide) ?_
          refine s_aload_n hX dX10_block_74 rfl ?_
          refine s_getR (r := 125) hX fo_RX10_27_9 SH_123 rfl dX10_block_75 ?_
          refine s_iload_n hX dX10_block_78 rfl ?_
          obtain ⟨c7, h⟩ := gd_some h
          refine s_iald hX SH_125 c7 dX10_block_79 ?_
          refine s_if_ne (tgt := 87) hX dX10_block_80 (by decide) (fun c9 => ?_) (fun c9 => ?_)
          · replace h := (if_neg c9).symm.trans h
            refine s_aload_n hX dX10_block_87 rfl ?_
            refine s_getR (r := 126) hX fo_RX10_30_9 SH_123 rfl dX10_block_88 ?_
            refine s_iload_n hX dX10_block_91 rfl ?_
            obtain ⟨c8, h⟩ := gd_some h
            refine s_iald hX SH_126 c8 dX10_block_92 ?_
            obtain ⟨rfl, rfl⟩ := rt2 h
            exact hret _ _ (nzi _) dX10_block_93
          · replace h := (if_pos c9).symm.trans h
            refine s_iconst (-1) hX dX10_block_83 (by decide) ?_
            refine s_goto (tgt := 93) hX dX10_block_84 (by decide) ?_
            obtain ⟨rfl, rfl⟩ := rt2 h
            exact hret _ _ (nzi _) dX10_block_93
        · replace h := (if_neg c10).symm.trans h
          by_cases c14 : l2 = 3
          · replace h := (if_pos c14).symm.trans h
            refine s_tswIn (tgt := 94) hX dX10_block_20 (v := 3) c14 (by decide) (by decide) rfl (by decide) ?_
            refine s_aload_n hX dX10_block_94 rfl ?_
            refine s_getR (r := 125) hX fo_RX10_27_9 SH_123 rfl dX10_block_95 ?_
            refine s_iload_n hX dX10_block_98 rfl ?_
            obtain ⟨c11, h⟩ := gd_some h
            refine s_iald hX SH_125 c11 dX10_block_99 ?_
            refine s_iconst 2 hX dX10_block_100 (by decide) ?_
            refine s_ic_ne (tgt := 108) hX dX10_block_101 (by decide) (fun c13 => ?_) (fun c13 => ?_)
            · replace h := (if_neg c13).symm.trans h
              refine s_aload_n hX dX10_block_108 rfl ?_
              refine s_getR (r := 127) hX fo_RX10_33_9 SH_123 rfl dX10_block_109 ?_
              refine s_iload_n hX dX10_block_112 rfl ?_
              obtain ⟨c12, h⟩ := gd_some h
              refine s_iald hX SH_127 c12 dX10_block_113 ?_
              obtain ⟨rfl, rfl⟩ := rt2 h
              exact hret _ _ (nzi _) dX10_block_114
            · replace h := (if_pos c13).symm.trans h
              refine s_iconst (-1) hX dX10_block_104 (by decide) ?_
              refine s_goto (tgt := 114) hX dX10_block_105 (by decide) ?_
              obtain ⟨rfl, rfl⟩ := rt2 h
              exact hret _ _ (nzi _) dX10_block_114
          · replace h := (if_neg c14).symm.trans h
            by_cases c18 : l2 = 4
            · replace h := (if_pos c18).symm.trans h
              refine s_tswIn (tgt := 115) hX dX10_block_20 (v := 4) c18 (by decide) (by decide) rfl (by decide) ?_
              refine s_aload_n hX dX10_block_115 rfl ?_
              refine s_getR (r := 125) hX fo_RX10_27_9 SH_123 rfl dX10_block_116 ?_
              refine s_iload_n hX dX10_block_119 rfl ?_
              obtain ⟨c15, h⟩ := gd_some h
              refine s_iald hX SH_125 c15 dX10_block_120 ?_
              refine s_iconst 1 hX dX10_block_121 (by decide) ?_
              refine s_ic_ne (tgt := 134) hX dX10_block_122 (by decide) (fun c17 => ?_) (fun c17 => ?_)
              · replace h := (if_neg c17).symm.trans h
                refine s_iconst (-1) hX dX10_block_134 (by decide) ?_
                obtain ⟨rfl, rfl⟩ := rt2 h
                exact hret _ _ (nzi _) dX10_block_135
              · replace h := (if_pos c17).symm.trans h
                refine s_aload_n hX dX10_block_125 rfl ?_
                refine s_getR (r := 128) hX fo_RX10_36_9 SH_123 rfl dX10_block_126 ?_
                refine s_iload_n hX dX10_block_129 rfl ?_
                obtain ⟨c16, h⟩ := gd_some h
                refine s_iald hX SH_128 c16 dX10_block_130 ?_
                refine s_goto (tgt := 135) hX dX10_block_131 (by decide) ?_
                obtain ⟨rfl, rfl⟩ := rt2 h
                exact hret _ _ (nzi _) dX10_block_135
            · replace h := (if_neg c18).symm.trans h
              by_cases c20 : l2 = 5
              · replace h := (if_pos c20).symm.trans h
                refine s_tswIn (tgt := 136) hX dX10_block_20 (v := 5) c20 (by decide) (by decide) rfl (by decide) ?_
                refine s_aload_n hX dX10_block_136 rfl ?_
                refine s_getR (r := 129) hX fo_RX10_39_9 SH_123 rfl dX10_block_137 ?_
                refine s_iload_n hX dX10_block_140 rfl ?_
                obtain ⟨c19, h⟩ := gd_some h
                refine s_iald hX SH_129 c19 dX10_block_141 ?_
                obtain ⟨rfl, rfl⟩ := rt2 h
                exact hret _ _ (nzi _) dX10_block_142
              · replace h := (if_neg c20).symm.trans h
                refine s_tswOut (tgt := 143) hX dX10_block_20 (tsw_out0_5 l2 c4 c6 c10 c14 c18 c20) (by decide) ?_
                refine s_aload_n hX dX10_block_143 rfl ?_
                refine s_iconst 2 hX dX10_block_144 (by decide) ?_
                obtain ⟨r21, σ22, hc, h⟩ := bn2_some h
                refine s_callVI _ hX (cX10_fails_ok (sl X)  hc) SH_123 mv_RX10_217_9 (fun _ => rfl) (by decide) (Nat.le_of_ble_eq_true rfl) hcs dX10_block_145 rfl ?_
                obtain ⟨rfl, rfl⟩ := rt2 h
                exact hret _ _ (nzi _) dX10_block_148
  · replace h := (if_pos c25).symm.trans h
    refine s_aload_n hX dX10_block_13 rfl ?_
    refine s_iconst 1 hX dX10_block_14 (by decide) ?_
    obtain ⟨r23, σ24, hc, h⟩ := bn2_some h
    refine s_callVI _ hX (cX10_fails_ok (sl X)  hc) SH_123 mv_RX10_217_9 (fun _ => rfl) (by decide) (Nat.le_of_ble_eq_true rfl) hcs dX10_block_15 rfl ?_
    obtain ⟨rfl, rfl⟩ := rt2 h
    exact hret _ _ (nzi _) dX10_block_18
