def fX10_usesOf (σ : Mm) (l1 : Int32) : Option Int32 :=
  gd l1 64 <|
  if (σ 130 l1.toNatClampNeg) = 0 then
  some 0
else
  gd l1 64 <|
  gd l1 64 <|
  if (σ 130 l1.toNatClampNeg) < 2 then
  some ((1 <<< ((σ 132 l1.toNatClampNeg) &&& 31)) ||| 0)
else
  gd l1 64 <|
  some ((1 <<< ((σ 132 l1.toNatClampNeg) &&& 31)) ||| (1 <<< ((σ 133 l1.toNatClampNeg) &&& 31)))
set_option maxHeartbeats 4000000 in
theorem cX10_usesOf_ok (l : Launch) {σ : Mm} {l1 : Int32} {r : Int32}  (h : fX10_usesOf σ l1 = some r) : cI l yX10_usesOf cX10_usesOf 2 .int 0 0 (fun ad => [.ref (ad 123), .int l1]) σ r σ := by
  refine c_enterI (fun ad => [some (.ref (ad 123)), some (.int l1)]) (by decide) (fun ad => ⟨by simp [Value.category], Nat.le_of_ble_eq_true rfl⟩) (fun ad => ⟨0, rfl⟩) ?_
  intro X _ hX hret
  have hcs : ((0 : Nat), (0 : Nat)).1 ≤ (sR X).cells ∧ ((0 : Nat), (0 : Nat)).2 ≤ (sR X).slots := ⟨Nat.zero_le _, Nat.zero_le _⟩
  generalize hcs0 : ((0 : Nat), (0 : Nat)) = cs at hcs hret ⊢
  unfold fX10_usesOf at h
  show sW X 2 cs σ 0 [some (.ref (sad X 123)), some (.int l1)] []
  refine s_aload_n hX dX10_usesOf_0 rfl ?_
  refine s_getR (r := 130) hX fo_RX10_42_9 SH_123 rfl dX10_usesOf_1 ?_
  refine s_iload_n hX dX10_usesOf_4 rfl ?_
  obtain ⟨c1, h⟩ := gd_some h
  refine s_iald hX SH_130 c1 dX10_usesOf_5 ?_
  refine s_if_ne (tgt := 11) hX dX10_usesOf_6 (by decide) (fun c6 => ?_) (fun c6 => ?_)
  · replace h := (if_neg c6).symm.trans h
    refine s_iconst 1 hX dX10_usesOf_11 (by decide) ?_
    refine s_aload_n hX dX10_usesOf_12 rfl ?_
    refine s_getR (r := 132) hX fo_RX10_48_9 SH_123 rfl dX10_usesOf_13 ?_
    refine s_iload_n hX dX10_usesOf_16 rfl ?_
    obtain ⟨c2, h⟩ := gd_some h
    refine s_iald hX SH_132 c2 dX10_usesOf_17 ?_
    refine s_ishl hX dX10_usesOf_18 ?_
    refine s_aload_n hX dX10_usesOf_19 rfl ?_
    refine s_getR (r := 130) hX fo_RX10_42_9 SH_123 rfl dX10_usesOf_20 ?_
    refine s_iload_n hX dX10_usesOf_23 rfl ?_
    obtain ⟨c3, h⟩ := gd_some h
    refine s_iald hX SH_130 c3 dX10_usesOf_24 ?_
    refine s_iconst 2 hX dX10_usesOf_25 (by decide) ?_
    refine s_ic_lt (tgt := 40) hX dX10_usesOf_26 (by decide) (fun c5 => ?_) (fun c5 => ?_)
    · replace h := (if_pos c5).symm.trans h
      refine s_iconst 0 hX dX10_usesOf_40 (by decide) ?_
      refine s_ior hX dX10_usesOf_41 ?_
      obtain rfl := rt1 h
      exact hret _ _ (nzi _) dX10_usesOf_42
    · replace h := (if_neg c5).symm.trans h
      refine s_iconst 1 hX dX10_usesOf_29 (by decide) ?_
      refine s_aload_n hX dX10_usesOf_30 rfl ?_
      refine s_getR (r := 133) hX fo_RX10_51_9 SH_123 rfl dX10_usesOf_31 ?_
      refine s_iload_n hX dX10_usesOf_34 rfl ?_
      obtain ⟨c4, h⟩ := gd_some h
      refine s_iald hX SH_133 c4 dX10_usesOf_35 ?_
      refine s_ishl hX dX10_usesOf_36 ?_
      refine s_goto (tgt := 41) hX dX10_usesOf_37 (by decide) ?_
      refine s_ior hX dX10_usesOf_41 ?_
      obtain rfl := rt1 h
      exact hret _ _ (nzi _) dX10_usesOf_42
  · replace h := (if_pos c6).symm.trans h
    refine s_iconst 0 hX dX10_usesOf_9 (by decide) ?_
    obtain rfl := rt1 h
    exact hret _ _ (nzi _) dX10_usesOf_10
def fX10_endUse (σ : Mm) (l1 : Int32) : Option Int32 :=
  gd l1 8 <|
  if (σ 125 l1.toNatClampNeg) = 0 then
  some 0
else
  gd l1 8 <|
  some (1 <<< ((σ 126 l1.toNatClampNeg) &&& 31))
set_option maxHeartbeats 4000000 in
theorem cX10_endUse_ok (l : Launch) {σ : Mm} {l1 : Int32} {r : Int32}  (h : fX10_endUse σ l1 = some r) : cI l yX10_endUse cX10_endUse 2 .int 0 0 (fun ad => [.ref (ad 123), .int l1]) σ r σ := by
  refine c_enterI (fun ad => [some (.ref (ad 123)), some (.int l1)]) (by decide) (fun ad => ⟨by simp [Value.category], Nat.le_of_ble_eq_true rfl⟩) (fun ad => ⟨0, rfl⟩) ?_
  intro X _ hX hret
  have hcs : ((0 : Nat), (0 : Nat)).1 ≤ (sR X).cells ∧ ((0 : Nat), (0 : Nat)).2 ≤ (sR X).slots := ⟨Nat.zero_le _, Nat.zero_le _⟩
  generalize hcs0 : ((0 : Nat), (0 : Nat)) = cs at hcs hret ⊢
  unfold fX10_endUse at h
  show sW X 2 cs σ 0 [some (.ref (sad X 123)), some (.int l1)] []
  refine s_aload_n hX dX10_endUse_0 rfl ?_
  refine s_getR (r := 125) hX fo_RX10_27_9 SH_123 rfl dX10_endUse_1 ?_
  refine s_iload_n hX dX10_endUse_4 rfl ?_
  obtain ⟨c1, h⟩ := gd_some h
  refine s_iald hX SH_125 c1 dX10_endUse_5 ?_
  refine s_if_ne (tgt := 13) hX dX10_endUse_6 (by decide) (fun c3 => ?_) (fun c3 => ?_)
  · replace h := (if_neg c3).symm.trans h
    refine s_iconst 1 hX dX10_endUse_13 (by decide) ?_
    refine s_aload_n hX dX10_endUse_14 rfl ?_
    refine s_getR (r := 126) hX fo_RX10_30_9 SH_123 rfl dX10_endUse_15 ?_
    refine s_iload_n hX dX10_endUse_18 rfl ?_
    obtain ⟨c2, h⟩ := gd_some h
    refine s_iald hX SH_126 c2 dX10_endUse_19 ?_
    refine s_ishl hX dX10_endUse_20 ?_
    obtain rfl := rt1 h
    exact hret _ _ (nzi _) dX10_endUse_21
  · replace h := (if_pos c3).symm.trans h
    refine s_iconst 0 hX dX10_endUse_9 (by decide) ?_
    refine s_goto (tgt := 21) hX dX10_endUse_10 (by decide) ?_
    obtain rfl := rt1 h
    exact hret _ _ (nzi _) dX10_endUse_21
def fX10_goesTo (σ : Mm) (l1 : Int32) (l2 : Int32) : Option Int32 :=
  gd l1 8 <|
  jn (fun (_u : Unit) => gd l1 8 <|
  if (σ 125 l1.toNatClampNeg) = 1 then
  gd l1 8 <|
  if (σ 128 l1.toNatClampNeg) = l2 then
  some 1
else
  some 0
else
  some 0) fun j2 =>
  if (σ 125 l1.toNatClampNeg) = 2 then
  j2 ()
else
  gd l1 8 <|
  if (σ 127 l1.toNatClampNeg) = l2 then
  some 1
else
  j2 ()
set_option maxHeartbeats 4000000 in
theorem cX10_goesTo_ok (l : Launch) {σ : Mm} {l1 : Int32} {l2 : Int32} {r : Int32}  (h : fX10_goesTo σ l1 l2 = some r) : cI l yX10_goesTo cX10_goesTo 3 .boolean 0 0 (fun ad => [.ref (ad 123), .int l1, .int l2]) σ r σ := by
  refine c_enterI (fun ad => [some (.ref (ad 123)), some (.int l1), some (.int l2)]) (by decide) (fun ad => ⟨by simp [Value.category], Nat.le_of_ble_eq_true rfl⟩) (fun ad => ⟨0, rfl⟩) ?_
  intro X _ hX hret
  have hcs : ((0 : Nat), (0 : Nat)).1 ≤ (sR X).cells ∧ ((0 : Nat), (0 : Nat)).2 ≤ (sR X).slots := ⟨Nat.zero_le _, Nat.zero_le _⟩
  generalize hcs0 : ((0 : Nat), (0 : Nat)) = cs at hcs hret ⊢
  unfold fX10_goesTo at h
  show sW X 3 cs σ 0 [some (.ref (sad X 123)), some (.int l1), some (.int l2)] []
  refine s_aload_n hX dX10_goesTo_0 rfl ?_
  refine s_getR (r := 125) hX fo_RX10_27_9 SH_123 rfl dX10_goesTo_1 ?_
  refine s_iload_n hX dX10_goesTo_4 rfl ?_
  obtain ⟨c1, h⟩ := gd_some h
  refine s_iald hX SH_125 c1 dX10_goesTo_5 ?_
  refine s_iconst 2 hX dX10_goesTo_6 (by decide) ?_
  refine jn_use (fun j => ∀ (_u : Unit), j _u = some r → sW X 3 cs σ 20 [some (.ref (sad X 123)), some (.int l1), some (.int l2)] []) h ?_ ?_
  · intro _u h
    refine s_aload_n hX dX10_goesTo_20 rfl ?_
    refine s_getR (r := 125) hX fo_RX10_27_9 SH_123 rfl dX10_goesTo_21 ?_
    refine s_iload_n hX dX10_goesTo_24 rfl ?_
    obtain ⟨c3, h⟩ := gd_some h
    refine s_iald hX SH_125 c3 dX10_goesTo_25 ?_
    refine s_iconst 1 hX dX10_goesTo_26 (by decide) ?_
    refine s_ic_ne (tgt := 44) hX dX10_goesTo_27 (by decide) (fun c6 => ?_) (fun c6 => ?_)
    · replace h := (if_neg c6).symm.trans h
      refine s_iconst 0 hX dX10_goesTo_44 (by decide) ?_
      obtain rfl := rt1 h
      exact hret _ _ nz0 dX10_goesTo_45
    · replace h := (if_pos c6).symm.trans h
      refine s_aload_n hX dX10_goesTo_30 rfl ?_
      refine s_getR (r := 128) hX fo_RX10_36_9 SH_123 rfl dX10_goesTo_31 ?_
      refine s_iload_n hX dX10_goesTo_34 rfl ?_
      obtain ⟨c4, h⟩ := gd_some h
      refine s_iald hX SH_128 c4 dX10_goesTo_35 ?_
      refine s_iload_n hX dX10_goesTo_36 rfl ?_
      refine s_ic_ne (tgt := 44) hX dX10_goesTo_37 (by decide) (fun c5 => ?_) (fun c5 => ?_)
      · replace h := (if_neg c5).symm.trans h
        refine s_iconst 0 hX dX10_goesTo_44 (by decide) ?_
        obtain rfl := rt1 h
        exact hret _ _ nz0 dX10_goesTo_45
      · replace h := (if_pos c5).symm.trans h
        refine s_iconst 1 hX dX10_goesTo_40 (by decide) ?_
        refine s_goto (tgt := 45) hX dX10_goesTo_41 (by decide) ?_
        obtain rfl := rt1 h
        exact hret _ _ nz1 dX10_goesTo_45
  · intro j2 hj2 h
    refine s_ic_eq (tgt := 20) hX dX10_goesTo_7 (by decide) (fun c9 => ?_) (fun c9 => ?_)
    · replace h := (if_pos c9).symm.trans h
      refine s_mask [true, true, true] ?_
      exact hj2 _ h
    · replace h := (if_neg c9).symm.trans h
      refine s_aload_n hX dX10_goesTo_10 rfl ?_
      refine s_getR (r := 127) hX fo_RX10_33_9 SH_123 rfl dX10_goesTo_11 ?_
      refine s_iload_n hX dX10_goesTo_14 rfl ?_
      obtain ⟨c7, h⟩ := gd_some h
      refine s_iald hX SH_127 c7 dX10_goesTo_15 ?_
      refine s_iload_n hX dX10_goesTo_16 rfl ?_
      refine s_ic_eq (tgt := 40) hX dX10_goesTo_17 (by decide) (fun c8 => ?_) (fun c8 => ?_)
      · replace h := (if_pos c8).symm.trans h
        refine s_iconst 1 hX dX10_goesTo_40 (by decide) ?_
        refine s_goto (tgt := 45) hX dX10_goesTo_41 (by decide) ?_
        obtain rfl := rt1 h
        exact hret _ _ nz1 dX10_goesTo_45
      · replace h := (if_neg c8).symm.trans h
        refine s_mask [true, true, true] ?_
        exact hj2 _ h
def gX10_liveBehind_4 (σ : Mm) (l1 : Int32) (rec : Int32 × Int32 → Option (Int32)) (x2 : Int32) (x3 : Int32) : Option (Int32) :=
  if (σ 123 1) ≤ x3 then
  some x2
else
  (fX10_goesTo σ l1 x3).bind fun r1 =>
  if r1 = 0 then
  bd (x3 + 1) fun v2 =>
  rec (x2, v2)
else
  gd x3 8 <|
  bd (x2 ||| (σ 135 x3.toNatClampNeg)) fun v4 =>
  bd (x3 + 1) fun v5 =>
  rec (v4, v5)
def qX10_liveBehind_4 (σ : Mm) (l1 : Int32) : Nat → Int32 × Int32 → Option (Int32) := lp (fun rec s => gX10_liveBehind_4 σ l1 rec s.1 s.2)
def fX10_liveBehind (σ : Mm) (l1 : Int32) : Option Int32 :=
  (qX10_liveBehind_4 σ l1 FU (0, 0)).bind fun v1 =>
  some v1
set_option maxHeartbeats 4000000 in
theorem pX10_liveBehind_4 {X : sT} {cs : Nat × Nat} (hX : sX X cX10_liveBehind RX10 4 1 22) (hcs : cs.1 ≤ (sR X).cells ∧ cs.2 ≤ (sR X).slots) (σ : Mm) (l1 : Int32)  : ∀ (n : Nat) (s : Int32 × Int32) (r : Int32), qX10_liveBehind_4 σ l1 n s = some r → sW X 4 cs σ 36 [none, none, some (.int r), none] [] → sW X 4 cs σ 4 [some (.ref (sad X 123)), some (.int l1), some (.int s.1), some (.int s.2)] [] := by
  refine lp_ind (P := fun (s : Int32 × Int32) (r : Int32) => sW X 4 cs σ 36 [none, none, some (.int r), none] [] → sW X 4 cs σ 4 [some (.ref (sad X 123)), some (.int l1), some (.int s.1), some (.int s.2)] []) ?_
  intro rec hrec s r h0 hk
  obtain ⟨x2, x3⟩ := s
  have h : gX10_liveBehind_4 σ l1 rec x2 x3 = some r := h0
  unfold gX10_liveBehind_4 at h
  show sW X 4 cs σ 4 [some (.ref (sad X 123)), some (.int l1), some (.int x2), some (.int x3)] []
  refine s_iload_n hX dX10_liveBehind_4 rfl ?_
  refine s_aload_n hX dX10_liveBehind_5 rfl ?_
  refine s_getI hX fo_RX10_17_9 SH_123 rfl dX10_liveBehind_6 ?_
  refine s_ic_ge (tgt := 36) hX dX10_liveBehind_9 (by decide) (fun c7 => ?_) (fun c7 => ?_)
  · replace h := (if_pos c7).symm.trans h
    obtain rfl := rt1 h
    refine s_mask [false, false, true, false] ?_
    exact hk
  · replace h := (if_neg c7).symm.trans h
    refine s_aload_n hX dX10_liveBehind_12 rfl ?_
    refine s_iload_n hX dX10_liveBehind_13 rfl ?_
    refine s_iload_n hX dX10_liveBehind_14 rfl ?_
    obtain ⟨r1, hc, h⟩ := bn_some h
    refine s_callVI _ hX (cX10_goesTo_ok (sl X)  hc) SH_123 mv_RX10_235_9 (fun _ => rfl) (by decide) (Nat.le_of_ble_eq_true rfl) hcs dX10_liveBehind_15 rfl ?_
    refine s_if_eq (tgt := 30) hX dX10_liveBehind_18 (by decide) (fun c6 => ?_) (fun c6 => ?_)
    · replace h := (if_pos c6).symm.trans h
      obtain ⟨v2, ev2, h⟩ := bd_some h
      refine s_iinc v2 hX dX10_liveBehind_30 rfl (by rw [ev2]; rfl) (by decide) ?_
      refine s_goto (tgt := 4) hX dX10_liveBehind_33 (by decide) ?_
      refine s_mask [true, true, true, true] ?_
      exact hrec _ _ h hk
    · replace h := (if_neg c6).symm.trans h
      refine s_iload_n hX dX10_liveBehind_21 rfl ?_
      refine s_aload_n hX dX10_liveBehind_22 rfl ?_
      refine s_getR (r := 135) hX fo_RX10_61_9 SH_123 rfl dX10_liveBehind_23 ?_
      refine s_iload_n hX dX10_liveBehind_26 rfl ?_
      obtain ⟨c3, h⟩ := gd_some h
      refine s_iald hX SH_135 c3 dX10_liveBehind_27 ?_
      refine s_ior hX dX10_liveBehind_28 ?_
      obtain ⟨v4, ev4, h⟩ := bd_some h
      refine s_topi v4 ev4 ?_
      refine s_istore_n hX dX10_liveBehind_29 (by decide) ?_
      obtain ⟨v5, ev5, h⟩ := bd_some h
      refine s_iinc v5 hX dX10_liveBehind_30 rfl (by rw [ev5]; rfl) (by decide) ?_
      refine s_goto (tgt := 4) hX dX10_liveBehind_33 (by decide) ?_
      refine s_mask [true, true, true, true] ?_
      exact hrec _ _ h hk
set_option maxHeartbeats 4000000 in
theorem cX10_liveBehind_ok (l : Launch) {σ : Mm} {l1 : Int32} {r : Int32}  (h : fX10_liveBehind σ l1 = some r) : cI l yX10_liveBehind cX10_liveBehind 4 .int 1 22 (fun ad => [.ref (ad 123), .int l1]) σ r σ := by
  refine c_enterI (fun ad => [some (.ref (ad 123)), some (.int l1), none, none]) (by decide) (fun ad => ⟨by simp [Value.category], Nat.le_of_ble_eq_true rfl⟩) (fun ad => ⟨2, rfl⟩) ?_
  intro X _ hX hret
  have hcs : ((0 : Nat), (0 : Nat)).1 ≤ (sR X).cells ∧ ((0 : Nat), (0 : Nat)).2 ≤ (sR X).slots := ⟨Nat.zero_le _, Nat.zero_le _⟩
  generalize hcs0 : ((0 : Nat), (0 : Nat)) = cs at hcs hret ⊢
  unfold fX10_liveBehind at h
  show sW X 4 cs σ 0 [some (.ref (sad X 123)), some (.int l1), none, none] []
  refine s_iconst 0 hX dX10_liveBehind_0 (by decide) ?_
  refine s_istore_n hX dX10_liveBehind_1 (by decide) ?_
  refine s_iconst 0 hX dX10_liveBehind_2 (by decide) ?_
  refine s_istore_n hX dX10_liveBehind_3 (by decide) ?_
  obtain ⟨v1, hc, h⟩ := bn_some h
  refine s_mask [true, true, true, true] ?_
  refine pX10_liveBehind_4 hX hcs _ _ _ _ _ hc ?_
  refine s_iload_n hX dX10_liveBehind_36 rfl ?_
  obtain rfl := rt1 h
  exact hret _ _ (nzi _) dX10_liveBehind_37
def gX10_liveOf_22 (σ : Mm) (l1 : Int32) (l2 : Int32) (rec : Int32 × Int32 → Option (Int32)) (x3 : Int32) (x4 : Int32) : Option (Int32) :=
  if x4 < l2 then
  some x3
else
  gd ((8 * l1) + x4) 64 <|
  (fX10_usesOf σ ((8 * l1) + x4)).bind fun r2 =>
  bd ((x3 &&& ((1 <<< ((σ 131 ((8 * l1) + x4).toNatClampNeg) &&& 31)) ^^^ (-1))) ||| r2) fun v3 =>
  bd (x4 + (-1)) fun v4 =>
  rec (v3, v4)
def qX10_liveOf_22 (σ : Mm) (l1 : Int32) (l2 : Int32) : Nat → Int32 × Int32 → Option (Int32) := lp (fun rec s => gX10_liveOf_22 σ l1 l2 rec s.1 s.2)
def fX10_liveOf (σ : Mm) (l1 : Int32) (l2 : Int32) : Option Int32 :=
  (fX10_liveBehind σ l1).bind fun r1 =>
  (fX10_endUse σ l1).bind fun r2 =>
  bd (r1 ||| r2) fun v3 =>
  gd l1 8 <|
  bd ((σ 124 l1.toNatClampNeg) - 1) fun v5 =>
  (qX10_liveOf_22 σ l1 l2 FU (v3, v5)).bind fun v6 =>
  some v6
set_option maxHeartbeats 4000000 in
theorem pX10_liveOf_22 {X : sT} {cs : Nat × Nat} (hX : sX X cX10_liveOf RX10 5 2 45) (hcs : cs.1 ≤ (sR X).cells ∧ cs.2 ≤ (sR X).slots) (σ : Mm) (l1 : Int32) (l2 : Int32)  : ∀ (n : Nat) (s : Int32 × Int32) (r : Int32), qX10_liveOf_22 σ l1 l2 n s = some r → sW X 5 cs σ 65 [none, none, none, some (.int r), none] [] → sW X 5 cs σ 22 [some (.ref (sad X 123)), some (.int l1), some (.int l2), some (.int s.1), some (.int s.2)] [] := by
  refine lp_ind (P := fun (s : Int32 × Int32) (r : Int32) => sW X 5 cs σ 65 [none, none, none, some (.int r), none] [] → sW X 5 cs σ 22 [some (.ref (sad X 123)), some (.int l1), some (.int l2), some (.int s.1), some (.int s.2)] []) ?_
  intro rec hrec s r h0 hk
  obtain ⟨x3, x4⟩ := s
  have h : gX10_liveOf_22 σ l1 l2 rec x3 x4 = some r := h0
  unfold gX10_liveOf_22 at h
  show sW X 5 cs σ 22 [some (.ref (sad X 123)), some (.int l1), some (.int l2), some (.int x3), some (.int x4)] []
  refine s_iload hX dX10_liveOf_22 rfl ?_
  refine s_iload_n hX dX10_liveOf_24 rfl ?_
  refine s_ic_lt (tgt := 65) hX dX10_liveOf_25 (by decide) (fun c5 => ?_) (fun c5 => ?_)
  · replace h := (if_pos c5).symm.trans h
    obtain rfl := rt1 h
    refine s_mask [false, false, false, true, false] ?_
    exact hk
  · replace h := (if_neg c5).symm.trans h
    refine s_iload_n hX dX10_liveOf_28 rfl ?_
    refine s_iconst 1 hX dX10_liveOf_29 (by decide) ?_
    refine s_aload_n hX dX10_liveOf_30 rfl ?_
    refine s_getR (r := 131) hX fo_RX10_45_9 SH_123 rfl dX10_liveOf_31 ?_
    refine s_bipush 8 hX dX10_liveOf_34 (by decide) ?_
    refine s_iload_n hX dX10_liveOf_36 rfl ?_
    refine s_imul hX dX10_liveOf_37 ?_
    refine s_iload hX dX10_liveOf_38 rfl ?_
    refine s_iadd hX dX10_liveOf_40 ?_
    obtain ⟨c1, h⟩ := gd_some h
    refine s_iald hX SH_131 c1 dX10_liveOf_41 ?_
    refine s_ishl hX dX10_liveOf_42 ?_
    refine s_iconst (-1) hX dX10_liveOf_43 (by decide) ?_
    refine s_ixor hX dX10_liveOf_44 ?_
    refine s_iand hX dX10_liveOf_45 ?_
    refine s_aload_n hX dX10_liveOf_46 rfl ?_
    refine s_bipush 8 hX dX10_liveOf_47 (by decide) ?_
    refine s_iload_n hX dX10_liveOf_49 rfl ?_
    refine s_imul hX dX10_liveOf_50 ?_
    refine s_iload hX dX10_liveOf_51 rfl ?_
    refine s_iadd hX dX10_liveOf_53 ?_
    obtain ⟨r2, hc, h⟩ := bn_some h
    refine s_callVI _ hX (cX10_usesOf_ok (sl X)  hc) SH_123 mv_RX10_245_9 (fun _ => rfl) (by decide) (Nat.le_of_ble_eq_true rfl) hcs dX10_liveOf_54 rfl ?_
    refine s_ior hX dX10_liveOf_57 ?_
    obtain ⟨v3, ev3, h⟩ := bd_some h
    refine s_topi v3 ev3 ?_
    refine s_istore_n hX dX10_liveOf_58 (by decide) ?_
    obtain ⟨v4, ev4, h⟩ := bd_some h
    refine s_iinc v4 hX dX10_liveOf_59 rfl (by rw [ev4]; rfl) (by decide) ?_
    refine s_goto (tgt := 22) hX dX10_liveOf_62 (by decide) ?_
    refine s_mask [true, true, true, true, true] ?_
    exact hrec _ _ h hk
set_option maxHeartbeats 4000000 in
theorem cX10_liveOf_ok (l : Launch) {σ : Mm} {l1 : Int32} {l2 : Int32} {r : Int32}  (h : fX10_liveOf σ l1 l2 = some r) : cI l yX10_liveOf cX10_liveOf 5 .int 2 45 (fun ad => [.ref (ad 123), .int l1, .int l2]) σ r σ := by
  refine c_enterI (fun ad => [some (.ref (ad 123)), some (.int l1), some (.int l2), none, none]) (by decide) (fun ad => ⟨by simp [Value.category], Nat.le_of_ble_eq_true rfl⟩) (fun ad => ⟨2, rfl⟩) ?_
  intro X _ hX hret
  have hcs : ((0 : Nat), (0 : Nat)).1 ≤ (sR X).cells ∧ ((0 : Nat), (0 : Nat)).2 ≤ (sR X).slots := ⟨Nat.zero_le _, Nat.zero_le _⟩
  generalize hcs0 : ((0 : Nat), (0 : Nat)) = cs at hcs hret ⊢
  unfold fX10_liveOf at h
  show sW X 5 cs σ 0 [some (.ref (sad X 123)), some (.int l1), some (.int l2), none, none] []
  refine s_aload_n hX dX10_liveOf_0 rfl ?_
  refine s_iload_n hX dX10_liveOf_1 rfl ?_
  obtain ⟨r1, hc, h⟩ := bn_some h
  refine s_callVI _ hX (cX10_liveBehind_ok (sl X)  hc) SH_123 mv_RX10_239_9 (fun _ => rfl) (by decide) (Nat.le_of_ble_eq_true rfl) hcs dX10_liveOf_2 rfl ?_
  refine s_aload_n hX dX10_liveOf_5 rfl ?_
  refine s_iload_n hX dX10_liveOf_6 rfl ?_
  obtain ⟨r2, hc, h⟩ := bn_some h
  refine s_callVI _ hX (cX10_endUse_ok (sl X)  hc) SH_123 mv_RX10_242_9 (fun _ => rfl) (by decide) (Nat.le_of_ble_eq_true rfl) hcs dX10_liveOf_7 rfl ?_
  refine s_ior hX dX10_liveOf_10 ?_
  obtain ⟨v3, ev3, h⟩ := bd_some h
  refine s_topi v3 ev3 ?_
  refine s_istore_n hX dX10_liveOf_11 (by decide) ?_
  refine s_aload_n hX dX10_liveOf_12 rfl ?_
  refine s_getR (r := 124) hX fo_RX10_23_9 SH_123 rfl dX10_liveOf_13 ?_
  refine s_iload_n hX dX10_liveOf_16 rfl ?_
  obtain ⟨c4, h⟩ := gd_some h
  refine s_iald hX SH_124 c4 dX10_liveOf_17 ?_
  refine s_iconst 1 hX dX10_liveOf_18 (by decide) ?_
  refine s_isub hX dX10_liveOf_19 ?_
  obtain ⟨v5, ev5, h⟩ := bd_some h
  refine s_topi v5 ev5 ?_
  refine s_istore hX dX10_liveOf_20 (by decide) ?_
  obtain ⟨v6, hc, h⟩ := bn_some h
  refine s_mask [true, true, true, true, true] ?_
  refine pX10_liveOf_22 hX hcs _ _ _ _ _ _ hc ?_
  refine s_iload_n hX dX10_liveOf_65 rfl ?_
  obtain rfl := rt1 h
  exact hret _ _ (nzi _) dX10_liveOf_66
def gX10_layLive_2  (rec : Mm × Int32 → Option (Mm)) (σ : Mm) (x1 : Int32) : Option (Mm) :=
  if (σ 123 1) ≤ x1 then
  some σ
else
  gd x1 8 <|
  bd (upm σ 135 (upd (σ 135) x1.toNatClampNeg 0)) fun σ2 =>
  bd (x1 + 1) fun v3 =>
  rec (σ2, v3)
def qX10_layLive_2  : Nat → Mm × Int32 → Option (Mm) := lp (fun rec s => gX10_layLive_2  rec s.1 s.2)
def gX10_layLive_33  (rec : Mm × Int32 × Int32 → Option (Mm × Int32)) (σ : Mm) (x1 : Int32) (x2 : Int32) : Option (Mm × Int32) :=
  if (σ 123 1) ≤ x2 then
  some (σ, x1)
else
  (fX10_liveOf σ x2 0).bind fun r1 =>
  gd x2 8 <|
  jn (fun (v3 : Int32) => bd (x1 ||| v3) fun v5 =>
  gd x2 8 <|
  bd (upm σ 135 (upd (σ 135) x2.toNatClampNeg r1)) fun σ7 =>
  bd (x2 + 1) fun v8 =>
  rec (σ7, v5, v8)) fun j4 =>
  if r1 = (σ 135 x2.toNatClampNeg) then
  j4 0
else
  j4 1
def qX10_layLive_33  : Nat → Mm × Int32 × Int32 → Option (Mm × Int32) := lp (fun rec s => gX10_layLive_33  rec s.1 s.2.1 s.2.2)
def gX10_layLive_25  (rec : Mm × Int32 → Option (Mm)) (σ : Mm) (x1 : Int32) : Option (Mm) :=
  if x1 = 0 then
  some σ
else
  bn2 (qX10_layLive_33  FU (σ, 0, 0)) fun σ1 v2 =>
  rec (σ1, v2)
def qX10_layLive_25  : Nat → Mm × Int32 → Option (Mm) := lp (fun rec s => gX10_layLive_25  rec s.1 s.2)
def fX10_layLive (σ : Mm) : Option Mm :=
  (qX10_layLive_2  FU (σ, 0)).bind fun σ1 =>
  (qX10_layLive_25  FU (σ1, 1)).bind fun σ2 =>
  some σ2
set_option maxHeartbeats 4000000 in
theorem pX10_layLive_2 {X : sT} {cs : Nat × Nat} (hX : sX X cX10_layLive RX10 4 3 69) (hcs : cs.1 ≤ (sR X).cells ∧ cs.2 ≤ (sR X).slots)   : ∀ (n : Nat) (s : Mm × Int32) (r : Mm), qX10_layLive_2  n s = some r → sW X 4 cs r 23 [some (.ref (sad X 123)), none, none, none] [] → sW X 4 cs s.1 2 [some (.ref (sad X 123)), some (.int s.2), none, none] [] := by
  refine lp_ind (P := fun (s : Mm × Int32) (r : Mm) => sW X 4 cs r 23 [some (.ref (sad X 123)), none, none, none] [] → sW X 4 cs s.1 2 [some (.ref (sad X 123)), some (.int s.2), none, none] []) ?_
  intro rec hrec s r h0 hk
  obtain ⟨σ, x1⟩ := s
  have h : gX10_layLive_2  rec σ x1 = some r := h0
  unfold gX10_layLive_2 at h
  show sW X 4 cs σ 2 [some (.ref (sad X 123)), some (.int x1), none, none] []
  refine s_iload_n hX dX10_layLive_2 rfl ?_
  refine s_aload_n hX dX10_layLive_3 rfl ?_
  refine s_getI hX fo_RX10_17_9 SH_123 rfl dX10_layLive_4 ?_
  refine s_ic_ge (tgt := 23) hX dX10_layLive_7 (by decide) (fun c4 => ?_) (fun c4 => ?_)
  · replace h := (if_pos c4).symm.trans h
    obtain rfl := rt1 h
    refine s_mask [true, false, false, false] ?_
    exact hk
  · replace h := (if_neg c4).symm.trans h
    refine s_aload_n hX dX10_layLive_10 rfl ?_
    refine s_getR (r := 135) hX fo_RX10_61_9 SH_123 rfl dX10_layLive_11 ?_
    refine s_iload_n hX dX10_layLive_14 rfl ?_
    refine s_iconst 0 hX dX10_layLive_15 (by decide) ?_
    obtain ⟨c1, h⟩ := gd_some h
    obtain ⟨σ2, eσ2, h⟩ := bd_some h
    refine s_iast hX SH_135 c1 dX10_layLive_16 ?_
    refine s_mem σ2 eσ2 ?_
    obtain ⟨v3, ev3, h⟩ := bd_some h
    refine s_iinc v3 hX dX10_layLive_17 rfl (by rw [ev3]; rfl) (by decide) ?_
    refine s_goto (tgt := 2) hX dX10_layLive_20 (by decide) ?_
    refine s_mask [true, true, false, false] ?_
    exact hrec _ _ h hk
set_option maxHeartbeats 4000000 in
theorem pX10_layLive_33 {X : sT} {cs : Nat × Nat} (hX : sX X cX10_layLive RX10 4 3 69) (hcs : cs.1 ≤ (sR X).cells ∧ cs.2 ≤ (sR X).slots)   : ∀ (n : Nat) (s : Mm × Int32 × Int32) (r : Mm × Int32), qX10_layLive_33  n s = some r → sW X 4 cs r.1 79 [some (.ref (sad X 123)), some (.int r.2), none, none] [] → sW X 4 cs s.1 33 [some (.ref (sad X 123)), some (.int s.2.1), some (.int s.2.2), none] [] := by
  refine lp_ind (P := fun (s : Mm × Int32 × Int32) (r : Mm × Int32) => sW X 4 cs r.1 79 [some (.ref (sad X 123)), some (.int r.2), none, none] [] → sW X 4 cs s.1 33 [some (.ref (sad X 123)), some (.int s.2.1), some (.int s.2.2), none] []) ?_
  intro rec hrec s r h0 hk
  obtain ⟨σ, x1, x2⟩ := s
  have h : gX10_layLive_33  rec σ x1 x2 = some r := h0
  unfold gX10_layLive_33 at h
  show sW X 4 cs σ 33 [some (.ref (sad X 123)), some (.int x1), some (.int x2), none] []
  refine s_iload_n hX dX10_layLive_33 rfl ?_
  refine s_aload_n hX dX10_layLive_34 rfl ?_
  refine s_getI hX fo_RX10_17_9 SH_123 rfl dX10_layLive_35 ?_
  refine s_ic_ge (tgt := 79) hX dX10_layLive_38 (by decide) (fun c10 => ?_) (fun c10 => ?_)
  · replace h := (if_pos c10).symm.trans h
    obtain rfl := rt1 h
    refine s_mask [true, true, false, false] ?_
    exact hk
  · replace h := (if_neg c10).symm.trans h
    refine s_aload_n hX dX10_layLive_41 rfl ?_
    refine s_iload_n hX dX10_layLive_42 rfl ?_
    refine s_iconst 0 hX dX10_layLive_43 (by decide) ?_
    obtain ⟨r1, hc, h⟩ := bn_some h
    refine s_callVI _ hX (cX10_liveOf_ok (sl X)  hc) SH_123 mv_RX10_248_9 (fun _ => rfl) (by decide) (Nat.le_of_ble_eq_true rfl) hcs dX10_layLive_44 rfl ?_
    refine s_istore_n hX dX10_layLive_47 (by decide) ?_
    refine s_iload_n hX dX10_layLive_48 rfl ?_
    refine s_iload_n hX dX10_layLive_49 rfl ?_
    refine s_aload_n hX dX10_layLive_50 rfl ?_
    refine s_getR (r := 135) hX fo_RX10_61_9 SH_123 rfl dX10_layLive_51 ?_
    refine s_iload_n hX dX10_layLive_54 rfl ?_
    obtain ⟨c2, h⟩ := gd_some h
    refine s_iald hX SH_135 c2 dX10_layLive_55 ?_
    refine jn_use (fun j => ∀ (v3 : Int32), j v3 = some r → sW X 4 cs σ 64 [some (.ref (sad X 123)), none, some (.int x2), some (.int r1)] [.int v3, .int x1]) h ?_ ?_
    · intro v3 h
      refine s_ior hX dX10_layLive_64 ?_
      obtain ⟨v5, ev5, h⟩ := bd_some h
      refine s_topi v5 ev5 ?_
      refine s_istore_n hX dX10_layLive_65 (by decide) ?_
      refine s_aload_n hX dX10_layLive_66 rfl ?_
      refine s_getR (r := 135) hX fo_RX10_61_9 SH_123 rfl dX10_layLive_67 ?_
      refine s_iload_n hX dX10_layLive_70 rfl ?_
      refine s_iload_n hX dX10_layLive_71 rfl ?_
      obtain ⟨c6, h⟩ := gd_some h
      obtain ⟨σ7, eσ7, h⟩ := bd_some h
      refine s_iast hX SH_135 c6 dX10_layLive_72 ?_
      refine s_mem σ7 eσ7 ?_
      obtain ⟨v8, ev8, h⟩ := bd_some h
      refine s_iinc v8 hX dX10_layLive_73 rfl (by rw [ev8]; rfl) (by decide) ?_
      refine s_goto (tgt := 33) hX dX10_layLive_76 (by decide) ?_
      refine s_mask [true, true, true, false] ?_
      exact hrec _ _ h hk
    · intro j4 hj4 h
      refine s_ic_eq (tgt := 63) hX dX10_layLive_56 (by decide) (fun c9 => ?_) (fun c9 => ?_)
      · replace h := (if_pos c9).symm.trans h
        refine s_iconst 0 hX dX10_layLive_63 (by decide) ?_
        refine s_mask [true, false, true, true] ?_
        exact hj4 _ h
      · replace h := (if_neg c9).symm.trans h
        refine s_iconst 1 hX dX10_layLive_59 (by decide) ?_
        refine s_goto (tgt := 64) hX dX10_layLive_60 (by decide) ?_
        refine s_mask [true, false, true, true] ?_
        exact hj4 _ h
set_option maxHeartbeats 4000000 in
theorem pX10_layLive_25 {X : sT} {cs : Nat × Nat} (hX : sX X cX10_layLive RX10 4 3 69) (hcs : cs.1 ≤ (sR X).cells ∧ cs.2 ≤ (sR X).slots)   : ∀ (n : Nat) (s : Mm × Int32) (r : Mm), qX10_layLive_25  n s = some r → sW X 4 cs r 82 [none, none, none, none] [] → sW X 4 cs s.1 25 [some (.ref (sad X 123)), some (.int s.2), none, none] [] := by
  refine lp_ind (P := fun (s : Mm × Int32) (r : Mm) => sW X 4 cs r 82 [none, none, none, none] [] → sW X 4 cs s.1 25 [some (.ref (sad X 123)), some (.int s.2), none, none] []) ?_
  intro rec hrec s r h0 hk
  obtain ⟨σ, x1⟩ := s
  have h : gX10_layLive_25  rec σ x1 = some r := h0
  unfold gX10_layLive_25 at h
  show sW X 4 cs σ 25 [some (.ref (sad X 123)), some (.int x1), none, none] []
  refine s_iload_n hX dX10_layLive_25 rfl ?_
  refine s_if_eq (tgt := 82) hX dX10_layLive_26 (by decide) (fun c3 => ?_) (fun c3 => ?_)
  · replace h := (if_pos c3).symm.trans h
    obtain rfl := rt1 h
    refine s_mask [false, false, false, false] ?_
    exact hk
  · replace h := (if_neg c3).symm.trans h
    refine s_iconst 0 hX dX10_layLive_29 (by decide) ?_
    refine s_istore_n hX dX10_layLive_30 (by decide) ?_
    refine s_iconst 0 hX dX10_layLive_31 (by decide) ?_
    refine s_istore_n hX dX10_layLive_32 (by decide) ?_
    obtain ⟨σ1, v2, hc, h⟩ := bn2_some h
    refine s_mask [true, true, true, false] ?_
    refine pX10_layLive_33 hX hcs  _ _ _ hc ?_
    refine s_goto (tgt := 25) hX dX10_layLive_79 (by decide) ?_
    refine s_mask [true, true, false, false] ?_
    exact hrec _ _ h hk
set_option maxHeartbeats 4000000 in
theorem cX10_layLive_ok (l : Launch) {σ : Mm} {σ' : Mm}  (h : fX10_layLive σ = some σ') : cV l yX10_layLive cX10_layLive 4 3 69 (fun ad => [.ref (ad 123)]) σ σ' := by
  refine c_enterV (fun ad => [some (.ref (ad 123)), none, none, none]) (by decide) (fun ad => ⟨by simp [Value.category], Nat.le_of_ble_eq_true rfl⟩) (fun ad => ⟨3, rfl⟩) ?_
  intro X _ hX hret
  have hcs : ((0 : Nat), (0 : Nat)).1 ≤ (sR X).cells ∧ ((0 : Nat), (0 : Nat)).2 ≤ (sR X).slots := ⟨Nat.zero_le _, Nat.zero_le _⟩
  generalize hcs0 : ((0 : Nat), (0 : Nat)) = cs at hcs hret ⊢
  unfold fX10_layLive at h
  show sW X 4 cs σ 0 [some (.ref (sad X 123)), none, none, none] []
  refine s_iconst 0 hX dX10_layLive_0 (by decide) ?_
  refine s_istore_n hX dX10_layLive_1 (by decide) ?_
  obtain ⟨σ1, hc, h⟩ := bn_some h
  refine s_mask [true, true, false, false] ?_
  refine pX10_layLive_2 hX hcs  _ _ _ hc ?_
  refine s_iconst 1 hX dX10_layLive_23 (by decide) ?_
  refine s_istore_n hX dX10_layLive_24 (by decide) ?_
  obtain ⟨σ2, hc, h⟩ := bn_some h
  refine s_mask [true, true, false, false] ?_
  refine pX10_layLive_25 hX hcs  _ _ _ hc ?_
  obtain rfl := rt1 h
  exact hret _ _ dX10_layLive_82
def fX10_live (σ : Mm) (l1 : Int32) (l2 : Int32) : Option (Int32 × Mm) :=
  bd (upm σ 123 (upd (σ 123) 0 0)) fun σ1 =>
  (fX10_isBlock σ1 l1).bind fun r2 =>
  if r2 = 0 then
  bn2 (fX10_fails σ1 1) fun r3 σ4 =>
  some (r3, σ4)
else
  gd l1 8 <|
  (fX10_in σ1 l2 0 (σ1 124 l1.toNatClampNeg)).bind fun r6 =>
  if r6 = 0 then
  bn2 (fX10_fails σ1 1) fun r9 σ10 =>
  some (r9, σ10)
else
  (fX10_layLive σ1).bind fun σ7 =>
  (fX10_liveOf σ7 l1 l2).bind fun r8 =>
  some (r8, σ7)
set_option maxHeartbeats 4000000 in
theorem cX10_live_ok (l : Launch) {σ : Mm} {l1 : Int32} {l2 : Int32} {r : Int32} {σ' : Mm}  (h : fX10_live σ l1 l2 = some (r, σ')) : cI l yX10_live cX10_live 3 .int 4 92 (fun ad => [.ref (ad 123), .int l1, .int l2]) σ r σ' := by
  refine c_enterI (fun ad => [some (.ref (ad 123)), some (.int l1), some (.int l2)]) (by decide) (fun ad => ⟨by simp [Value.category], Nat.le_of_ble_eq_true rfl⟩) (fun ad => ⟨0, rfl⟩) ?_
  intro X _ hX hret
  have hcs : ((0 : Nat), (0 : Nat)).1 ≤ (sR X).cells ∧ ((0 : Nat), (0 : Nat)).2 ≤ (sR X).slots := ⟨Nat.zero_le _, Nat.zero_le _⟩
  generalize hcs0 : ((0 : Nat), (0 : Nat)) = cs at hcs hret ⊢
  unfold fX10_live at h
  show sW X 3 cs σ 0 [some (.ref (sad X 123)), some (.int l1), some (.int l2)] []
  refine s_aload_n hX dX10_live_0 rfl ?_
  refine s_iconst 0 hX dX10_live_1 (by decide) ?_
  obtain ⟨σ1, eσ1, h⟩ := bd_some h
  refine s_putI hX fo_RX10_1_9 SH_123 rfl dX10_live_2 ?_
  refine s_mem σ1 eσ1 ?_
  refine s_aload_n hX dX10_live_5 rfl ?_
  refine s_iload_n hX dX10_live_6 rfl ?_
  obtain ⟨r2, hc, h⟩ := bn_some h
  refine s_callVI _ hX (cX10_isBlock_ok (sl X)  hc) SH_123 mv_RX10_221_9 (fun _ => rfl) (by decide) (Nat.le_of_ble_eq_true rfl) hcs dX10_live_7 rfl ?_
  refine s_if_eq (tgt := 27) hX dX10_live_10 (by decide) (fun c12 => ?_) (fun c12 => ?_)
  · replace h := (if_pos c12).symm.trans h
    refine s_aload_n hX dX10_live_27 rfl ?_
    refine s_iconst 1 hX dX10_live_28 (by decide) ?_
    obtain ⟨r3, σ4, hc, h⟩ := bn2_some h
    refine s_callVI _ hX (cX10_fails_ok (sl X)  hc) SH_123 mv_RX10_217_9 (fun _ => rfl) (by decide) (Nat.le_of_ble_eq_true rfl) hcs dX10_live_29 rfl ?_
    obtain ⟨rfl, rfl⟩ := rt2 h
    exact hret _ _ (nzi _) dX10_live_32
  · replace h := (if_neg c12).symm.trans h
    refine s_iload_n hX dX10_live_13 rfl ?_
    refine s_iconst 0 hX dX10_live_14 (by decide) ?_
    refine s_aload_n hX dX10_live_15 rfl ?_
    refine s_getR (r := 124) hX fo_RX10_23_9 SH_123 rfl dX10_live_16 ?_
    refine s_iload_n hX dX10_live_19 rfl ?_
    obtain ⟨c5, h⟩ := gd_some h
    refine s_iald hX SH_124 c5 dX10_live_20 ?_
    obtain ⟨r6, hc, h⟩ := bn_some h
    refine s_callSI _ hX (cX10_in_ok (sl X)  hc) ms_RX10_7 (fun _ => rfl) (by decide) (Nat.le_of_ble_eq_true rfl) hcs dX10_live_21 rfl ?_
    refine s_if_ne (tgt := 33) hX dX10_live_24 (by decide) (fun c11 => ?_) (fun c11 => ?_)
    · replace h := (if_neg c11).symm.trans h
      refine s_aload_n hX dX10_live_33 rfl ?_
      obtain ⟨σ7, hc, h⟩ := bn_some h
      refine s_callVV _ hX (cX10_layLive_ok (sl X)  hc) SH_123 mv_RX10_252_9 (fun _ => rfl) (by decide) (Nat.le_of_ble_eq_true rfl) hcs dX10_live_34 rfl ?_
      refine s_aload_n hX dX10_live_37 rfl ?_
      refine s_iload_n hX dX10_live_38 rfl ?_
      refine s_iload_n hX dX10_live_39 rfl ?_
      obtain ⟨r8, hc, h⟩ := bn_some h
      refine s_callVI _ hX (cX10_liveOf_ok (sl X)  hc) SH_123 mv_RX10_248_9 (fun _ => rfl) (by decide) (Nat.le_of_ble_eq_true rfl) hcs dX10_live_40 rfl ?_
      obtain ⟨rfl, rfl⟩ := rt2 h
      exact hret _ _ (nzi _) dX10_live_43
    · replace h := (if_pos c11).symm.trans h
      refine s_aload_n hX dX10_live_27 rfl ?_
      refine s_iconst 1 hX dX10_live_28 (by decide) ?_
      obtain ⟨r9, σ10, hc, h⟩ := bn2_some h
      refine s_callVI _ hX (cX10_fails_ok (sl X)  hc) SH_123 mv_RX10_217_9 (fun _ => rfl) (by decide) (Nat.le_of_ble_eq_true rfl) hcs dX10_live_29 rfl ?_
      obtain ⟨rfl, rfl⟩ := rt2 h
      exact hret _ _ (nzi _) dX10_live_32
def fX10_has (σ : Mm) (l0 : Int32) (l1 : Int32) : Option Int32 :=
  if ((l0 >>> (l1 &&& 31)) &&& 1) = 1 then
  some 1
else
  some 0
set_option maxHeartbeats 4000000 in
theorem cX10_has_ok (l : Launch) {σ : Mm} {l0 : Int32} {l1 : Int32} {r : Int32}  (h : fX10_has σ l0 l1 = some r) : cI l yX10_has cX10_has 2 .boolean 0 0 (fun ad => [.int l0, .int l1]) σ r σ := by
  refine c_enterI (fun ad => [some (.int l0), some (.int l1)]) (by decide) (fun ad => ⟨by simp [Value.category], Nat.le_of_ble_eq_true rfl⟩) (fun ad => ⟨0, rfl⟩) ?_
  intro X _ hX hret
  have hcs : ((0 : Nat), (0 : Nat)).1 ≤ (sR X).cells ∧ ((0 : Nat), (0 : Nat)).2 ≤ (sR X).slots := ⟨Nat.zero_le _, Nat.zero_le _⟩
  generalize hcs0 : ((0 : Nat), (0 : Nat)) = cs at hcs hret ⊢
  unfold fX10_has at h
  show sW X 2 cs σ 0 [some (.int l0), some (.int l1)] []
  refine s_iload_n hX dX10_has_0 rfl ?_
  refine s_iload_n hX dX10_has_1 rfl ?_
  refine s_ishr hX dX10_has_2 ?_
  refine s_iconst 1 hX dX10_has_3 (by decide) ?_
  refine s_iand hX dX10_has_4 ?_
  refine s_iconst 1 hX dX10_has_5 (by decide) ?_
  refine s_ic_ne (tgt := 13) hX dX10_has_6 (by decide) (fun c1 => ?_) (fun c1 => ?_)
  · replace h := (if_neg c1).symm.trans h
    refine s_iconst 0 hX dX10_has_13 (by decide) ?_
    obtain rfl := rt1 h
    exact hret _ _ nz0 dX10_has_14
  · replace h := (if_pos c1).symm.trans h
    refine s_iconst 1 hX dX10_has_9 (by decide) ?_
    refine s_goto (tgt := 14) hX dX10_has_10 (by decide) ?_
    obtain rfl := rt1 h
    exact hret _ _ nz1 dX10_has_14
def gX10_conflict_18 (l1 : Int32) (l2 : Int32) (rec : Mm × Int32 → Option (Mm)) (σ : Mm) (x3 : Int32) : Option (Mm) :=
  if 12 ≤ x3 then
  some σ
else
  if x3 = l1 then
  bd (x3 + 1) fun v1 =>
  rec (σ, v1)
else
  (fX10_has σ l2 x3).bind fun r2 =>
  if r2 = 0 then
  bd (x3 + 1) fun v3 =>
  rec (σ, v3)
else
  gd x3 12 <|
  gd x3 12 <|
  bd (upm σ 136 (upd (σ 136) x3.toNatClampNeg ((σ 136 x3.toNatClampNeg) ||| (1 <<< (l1 &&& 31))))) fun σ6 =>
  bd (x3 + 1) fun v7 =>
  rec (σ6, v7)
def qX10_conflict_18 (l1 : Int32) (l2 : Int32) : Nat → Mm × Int32 → Option (Mm) := lp (fun rec s => gX10_conflict_18 l1 l2 rec s.1 s.2)
def fX10_conflict (σ : Mm) (l1 : Int32) (l2 : Int32) : Option Mm :=
  gd l1 12 <|
  gd l1 12 <|
  bd (upm σ 136 (upd (σ 136) l1.toNatClampNeg ((σ 136 l1.toNatClampNeg) ||| (l2 &&& ((1 <<< (l1 &&& 31)) ^^^ (-1)))))) fun σ3 =>
  (qX10_conflict_18 l1 l2 FU (σ3, 0)).bind fun σ4 =>
  some σ4
set_option maxHeartbeats 4000000 in
theorem pX10_conflict_18 {X : sT} {cs : Nat × Nat} (hX : sX X cX10_conflict RX10 4 1 21) (hcs : cs.1 ≤ (sR X).cells ∧ cs.2 ≤ (sR X).slots) (l1 : Int32) (l2 : Int32)  : ∀ (n : Nat) (s : Mm × Int32) (r : Mm), qX10_conflict_18 l1 l2 n s = some r → sW X 4 cs r 55 [none, none, none, none] [] → sW X 4 cs s.1 18 [some (.ref (sad X 123)), some (.int l1), some (.int l2), some (.int s.2)] [] := by
  refine lp_ind (P := fun (s : Mm × Int32) (r : Mm) => sW X 4 cs r 55 [none, none, none, none] [] → sW X 4 cs s.1 18 [some (.ref (sad X 123)), some (.int l1), some (.int l2), some (.int s.2)] []) ?_
  intro rec hrec s r h0 hk
  obtain ⟨σ, x3⟩ := s
  have h : gX10_conflict_18 l1 l2 rec σ x3 = some r := h0
  unfold gX10_conflict_18 at h
  show sW X 4 cs σ 18 [some (.ref (sad X 123)), some (.int l1), some (.int l2), some (.int x3)] []
  refine s_iload_n hX dX10_conflict_18 rfl ?_
  refine s_bipush 12 hX dX10_conflict_19 (by decide) ?_
  refine s_ic_ge (tgt := 55) hX dX10_conflict_21 (by decide) (fun c10 => ?_) (fun c10 => ?_)
  · replace h := (if_pos c10).symm.trans h
    obtain rfl := rt1 h
    refine s_mask [false, false, false, false] ?_
    exact hk
  · replace h := (if_neg c10).symm.trans h
    refine s_iload_n hX dX10_conflict_24 rfl ?_
    refine s_iload_n hX dX10_conflict_25 rfl ?_
    refine s_ic_eq (tgt := 49) hX dX10_conflict_26 (by decide) (fun c9 => ?_) (fun c9 => ?_)
    · replace h := (if_pos c9).symm.trans h
      obtain ⟨v1, ev1, h⟩ := bd_some h
      refine s_iinc v1 hX dX10_conflict_49 rfl (by rw [ev1]; rfl) (by decide) ?_
      refine s_goto (tgt := 18) hX dX10_conflict_52 (by decide) ?_
      refine s_mask [true, true, true, true] ?_
      exact hrec _ _ h hk
    · replace h := (if_neg c9).symm.trans h
      refine s_iload_n hX dX10_conflict_29 rfl ?_
      refine s_iload_n hX dX10_conflict_30 rfl ?_
      obtain ⟨r2, hc, h⟩ := bn_some h
      refine s_callSI _ hX (cX10_has_ok (sl X)  hc) ms_RX10_255 (fun _ => rfl) (by decide) (Nat.le_of_ble_eq_true rfl) hcs dX10_conflict_31 rfl ?_
      refine s_if_eq (tgt := 49) hX dX10_conflict_34 (by decide) (fun c8 => ?_) (fun c8 => ?_)
      · replace h := (if_pos c8).symm.trans h
        obtain ⟨v3, ev3, h⟩ := bd_some h
        refine s_iinc v3 hX dX10_conflict_49 rfl (by rw [ev3]; rfl) (by decide) ?_
        refine s_goto (tgt := 18) hX dX10_conflict_52 (by decide) ?_
        refine s_mask [true, true, true, true] ?_
        exact hrec _ _ h hk
      · replace h := (if_neg c8).symm.trans h
        refine s_aload_n hX dX10_conflict_37 rfl ?_
        refine s_getR (r := 136) hX fo_RX10_64_9 SH_123 rfl dX10_conflict_38 ?_
        refine s_iload_n hX dX10_conflict_41 rfl ?_
        refine s_dup2 hX dX10_conflict_42 rfl rfl ?_
        obtain ⟨c4, h⟩ := gd_some h
        refine s_iald hX SH_136 c4 dX10_conflict_43 ?_
        refine s_iconst 1 hX dX10_conflict_44 (by decide) ?_
        refine s_iload_n hX dX10_conflict_45 rfl ?_
        refine s_ishl hX dX10_conflict_46 ?_
        refine s_ior hX dX10_conflict_47 ?_
        obtain ⟨c5, h⟩ := gd_some h
        obtain ⟨σ6, eσ6, h⟩ := bd_some h
        refine s_iast hX SH_136 c5 dX10_conflict_48 ?_
        refine s_mem σ6 eσ6 ?_
        obtain ⟨v7, ev7, h⟩ := bd_some h
        refine s_iinc v7 hX dX10_conflict_49 rfl (by rw [ev7]; rfl) (by decide) ?_
        refine s_goto (tgt := 18) hX dX10_conflict_52 (by decide) ?_
        refine s_mask [true, true, true, true] ?_
        exact hrec _ _ h hk
set_option maxHeartbeats 4000000 in
theorem cX10_conflict_ok (l : Launch) {σ : Mm} {l1 : Int32} {l2 : Int32} {σ' : Mm}  (h : fX10_conflict σ l1 l2 = some σ') : cV l yX10_conflict cX10_conflict 4 1 21 (fun ad => [.ref (ad 123), .int l1, .int l2]) σ σ' := by
  refine c_enterV (fun ad => [some (.ref (ad 123)), some (.int l1), some (.int l2), none]) (by decide) (fun ad => ⟨by simp [Value.category], Nat.le_of_ble_eq_true rfl⟩) (fun ad => ⟨1, rfl⟩) ?_
  intro X _ hX hret
  have hcs : ((0 : Nat), (0 : Nat)).1 ≤ (sR X).cells ∧ ((0 : Nat), (0 : Nat)).2 ≤ (sR X).slots := ⟨Nat.zero_le _, Nat.zero_le _⟩
  generalize hcs0 : ((0 : Nat), (0 : Nat)) = cs at hcs hret ⊢
  unfold fX10_conflict at h
  show sW X 4 cs σ 0 [some (.ref (sad X 123)), some (.int l1), some (.int l2), none] []
  refine s_aload_n hX dX10_conflict_0 rfl ?_
  refine s_getR (r := 136) hX fo_RX10_64_9 SH_123 rfl dX10_conflict_1 ?_
  refine s_iload_n hX dX10_conflict_4 rfl ?_
  refine s_dup2 hX dX10_conflict_5 rfl rfl ?_
  obtain ⟨c1, h⟩ := gd_some h
  refine s_iald hX SH_136 c1 dX10_conflict_6 ?_
  refine s_iload_n hX dX10_conflict_7 rfl ?_
  refine s_iconst 1 hX dX10_conflict_8 (by decide) ?_
  refine s_iload_n hX dX10_conflict_9 rfl ?_
  refine s_ishl hX dX10_conflict_10 ?_
  refine s_iconst (-1) hX dX10_conflict_11 (by decide) ?_
  refine s_ixor hX dX10_conflict_12 ?_
  refine s_iand hX dX10_conflict_13 ?_
  refine s_ior hX dX10_conflict_14 ?_
  obtain ⟨c2, h⟩ := gd_some h
  obtain ⟨σ3, eσ3, h⟩ := bd_some h
  refine s_iast hX SH_136 c2 dX10_conflict_15 ?_
  refine s_mem σ3 eσ3 ?_
  refine s_iconst 0 hX dX10_conflict_16 (by decide) ?_
  refine s_istore_n hX dX10_conflict_17 (by decide) ?_
  obtain ⟨σ4, hc, h⟩ := bn_some h
  refine s_mask [true, true, true, true] ?_
  refine pX10_conflict_18 hX hcs _ _ _ _ _ hc ?_
  obtain rfl := rt1 h
  exact hret _ _ dX10_conflict_55
def gX10_layConflicts_6  (rec : Mm × Int32 → Option (Mm)) (σ : Mm) (x1 : Int32) : Option (Mm) :=
  if 12 ≤ x1 then
  some σ
else
  gd x1 12 <|
  bd (upm σ 136 (upd (σ 136) x1.toNatClampNeg 0)) fun σ2 =>
  bd (x1 + 1) fun v3 =>
  rec (σ2, v3)
def qX10_layConflicts_6  : Nat → Mm × Int32 → Option (Mm) := lp (fun rec s => gX10_layConflicts_6  rec s.1 s.2)
def gX10_layConflicts_37 (l1 : Int32) (rec : Mm × Int32 → Option (Mm)) (σ : Mm) (x2 : Int32) : Option (Mm) :=
  gd l1 8 <|
  if (σ 124 l1.toNatClampNeg) ≤ x2 then
  some σ
else
  gd ((8 * l1) + x2) 64 <|
  (fX10_liveOf σ l1 (x2 + 1)).bind fun r3 =>
  (fX10_conflict σ (σ 131 ((8 * l1) + x2).toNatClampNeg) r3).bind fun σ4 =>
  bd (x2 + 1) fun v5 =>
  rec (σ4, v5)
def qX10_layConflicts_37 (l1 : Int32) : Nat → Mm × Int32 → Option (Mm) := lp (fun rec s => gX10_layConflicts_37 l1 rec s.1 s.2)
def gX10_layConflicts_27  (rec : Mm × Int32 → Option (Mm)) (σ : Mm) (x1 : Int32) : Option (Mm) :=
  if (σ 123 1) ≤ x1 then
  some σ
else
  (qX10_layConflicts_37 x1 FU (σ, 0)).bind fun σ1 =>
  bd (x1 + 1) fun v2 =>
  rec (σ1, v2)
def qX10_layConflicts_27  : Nat → Mm × Int32 → Option (Mm) := lp (fun rec s => gX10_layConflicts_27  rec s.1 s.2)
def gX10_layConflicts_84  (rec : Mm × Int32 → Option (Mm)) (σ : Mm) (x1 : Int32) : Option (Mm) :=
  if 12 ≤ x1 then
  some σ
else
  gd 0 8 <|
  (fX10_has σ (σ 135 (Int32.toNatClampNeg 0)) x1).bind fun r2 =>
  if r2 = 0 then
  bd (x1 + 1) fun v3 =>
  rec (σ, v3)
else
  gd 0 8 <|
  (fX10_conflict σ x1 (σ 135 (Int32.toNatClampNeg 0))).bind fun σ5 =>
  bd (x1 + 1) fun v6 =>
  rec (σ5, v6)
def qX10_layConflicts_84  : Nat → Mm × Int32 → Option (Mm) := lp (fun rec s => gX10_layConflicts_84  rec s.1 s.2)
def fX10_layConflicts (σ : Mm) : Option Mm :=
  (fX10_layLive σ).bind fun σ1 =>
  (qX10_layConflicts_6  FU (σ1, 0)).bind fun σ2 =>
  (qX10_layConflicts_27  FU (σ2, 0)).bind fun σ3 =>
  (qX10_layConflicts_84  FU (σ3, 0)).bind fun σ4 =>
  some σ4
set_option maxHeartbeats 4000000 in
theorem pX10_layConflicts_6 {X : sT} {cs : Nat × Nat} (hX : sX X cX10_layConflicts RX10 3 4 92) (hcs : cs.1 ≤ (sR X).cells ∧ cs.2 ≤ (sR X).slots)   : ∀ (n : Nat) (s : Mm × Int32) (r : Mm), qX10_layConflicts_6  n s = some r → sW X 3 cs r 25 [some (.ref (sad X 123)), none, none] [] → sW X 3 cs s.1 6 [some (.ref (sad X 123)), some (.int s.2), none] [] := by
  refine lp_ind (P := fun (s : Mm × Int32) (r : Mm) => sW X 3 cs r 25 [some (.ref (sad X 123)), none, none] [] → sW X 3 cs s.1 6 [some (.ref (sad X 123)), some (.int s.2), none] []) ?_
  intro rec hrec s r h0 hk
  obtain ⟨σ, x1⟩ := s
  have h : gX10_layConflicts_6  rec σ x1 = some r := h0
  unfold gX10_layConflicts_6 at h
  show sW X 3 cs σ 6 [some (.ref (sad X 123)), some (.int x1), none] []
  refine s_iload_n hX dX10_layConflicts_6 rfl ?_
  refine s_bipush 12 hX dX10_layConflicts_7 (by decide) ?_
  refine s_ic_ge (tgt := 25) hX dX10_layConflicts_9 (by decide) (fun c4 => ?_) (fun c4 => ?_)
  · replace h := (if_pos c4).symm.trans h
    obtain rfl := rt1 h
    refine s_mask [true, false, false] ?_
    exact hk
  · replace h := (if_neg c4).symm.trans h
    refine s_aload_n hX dX10_layConflicts_12 rfl ?_
    refine s_getR (r := 136) hX fo_RX10_64_9 SH_123 rfl dX10_layConflicts_13 ?_
    refine s_iload_n hX dX10_layConflicts_16 rfl ?_
    refine s_iconst 0 hX dX10_layConflicts_17 (by decide) ?_
    obtain ⟨c1, h⟩ := gd_some h
    obtain ⟨σ2, eσ2, h⟩ := bd_some h
    refine s_iast hX SH_136 c1 dX10_layConflicts_18 ?_
    refine s_mem σ2 eσ2 ?_
    obtain ⟨v3, ev3, h⟩ := bd_some h
    refine s_iinc v3 hX dX10_layConflicts_19 rfl (by rw [ev3]; rfl) (by decide) ?_
    refine s_goto (tgt := 6) hX dX10_layConflicts_22 (by decide) ?_
    refine s_mask [true, true, false] ?_
    exact hrec _ _ h hk
set_option maxHeartbeats 4000000 in
theorem pX10_layConflicts_37 {X : sT} {cs : Nat × Nat} (hX : sX X cX10_layConflicts RX10 3 4 92) (hcs : cs.1 ≤ (sR X).cells ∧ cs.2 ≤ (sR X).slots) (l1 : Int32)  : ∀ (n : Nat) (s : Mm × Int32) (r : Mm), qX10_layConflicts_37 l1 n s = some r → sW X 3 cs r 76 [some (.ref (sad X 123)), some (.int l1), none] [] → sW X 3 cs s.1 37 [some (.ref (sad X 123)), some (.int l1), some (.int s.2)] [] := by
  refine lp_ind (P := fun (s : Mm × Int32) (r : Mm) => sW X 3 cs r 76 [some (.ref (sad X 123)), some (.int l1), none] [] → sW X 3 cs s.1 37 [some (.ref (sad X 123)), some (.int l1), some (.int s.2)] []) ?_
  intro rec hrec s r h0 hk
  obtain ⟨σ, x2⟩ := s
  have h : gX10_layConflicts_37 l1 rec σ x2 = some r := h0
  unfold gX10_layConflicts_37 at h
  show sW X 3 cs σ 37 [some (.ref (sad X 123)), some (.int l1), some (.int x2)] []
  refine s_iload_n hX dX10_layConflicts_37 rfl ?_
  refine s_aload_n hX dX10_layConflicts_38 rfl ?_
  refine s_getR (r := 124) hX fo_RX10_23_9 SH_123 rfl dX10_layConflicts_39 ?_
  refine s_iload_n hX dX10_layConflicts_42 rfl ?_
  obtain ⟨c1, h⟩ := gd_some h
  refine s_iald hX SH_124 c1 dX10_layConflicts_43 ?_
  refine s_ic_ge (tgt := 76) hX dX10_layConflicts_44 (by decide) (fun c6 => ?_) (fun c6 => ?_)
  · replace h := (if_pos c6).symm.trans h
    obtain rfl := rt1 h
    refine s_mask [true, true, false] ?_
    exact hk
  · replace h := (if_neg c6).symm.trans h
    refine s_aload_n hX dX10_layConflicts_47 rfl ?_
    refine s_aload_n hX dX10_layConflicts_48 rfl ?_
    refine s_getR (r := 131) hX fo_RX10_45_9 SH_123 rfl dX10_layConflicts_49 ?_
    refine s_bipush 8 hX dX10_layConflicts_52 (by decide) ?_
    refine s_iload_n hX dX10_layConflicts_54 rfl ?_
    refine s_imul hX dX10_layConflicts_55 ?_
    refine s_iload_n hX dX10_layConflicts_56 rfl ?_
    refine s_iadd hX dX10_layConflicts_57 ?_
    obtain ⟨c2, h⟩ := gd_some h
    refine s_iald hX SH_131 c2 dX10_layConflicts_58 ?_
    refine s_aload_n hX dX10_layConflicts_59 rfl ?_
    refine s_iload_n hX dX10_layConflicts_60 rfl ?_
    refine s_iload_n hX dX10_layConflicts_61 rfl ?_
    refine s_iconst 1 hX dX10_layConflicts_62 (by decide) ?_
    refine s_iadd hX dX10_layConflicts_63 ?_
    obtain ⟨r3, hc, h⟩ := bn_some h
    refine s_callVI _ hX (cX10_liveOf_ok (sl X)  hc) SH_123 mv_RX10_248_9 (fun _ => rfl) (by decide) (Nat.le_of_ble_eq_true rfl) hcs dX10_layConflicts_64 rfl ?_
    obtain ⟨σ4, hc, h⟩ := bn_some h
    refine s_callVV _ hX (cX10_conflict_ok (sl X)  hc) SH_123 mv_RX10_258_9 (fun _ => rfl) (by decide) (Nat.le_of_ble_eq_true rfl) hcs dX10_layConflicts_67 rfl ?_
    obtain ⟨v5, ev5, h⟩ := bd_some h
    refine s_iinc v5 hX dX10_layConflicts_70 rfl (by rw [ev5]; rfl) (by decide) ?_
    refine s_goto (tgt := 37) hX dX10_layConflicts_73 (by decide) ?_
    refine s_mask [true, true, true] ?_
    exact hrec _ _ h hk
set_option maxHeartbeats 4000000 in
theorem pX10_layConflicts_27 {X : sT} {cs : Nat × Nat} (hX : sX X cX10_layConflicts RX10 3 4 92) (hcs : cs.1 ≤ (sR X).cells ∧ cs.2 ≤ (sR X).slots)   : ∀ (n : Nat) (s : Mm × Int32) (r : Mm), qX10_layConflicts_27  n s = some r → sW X 3 cs r 82 [some (.ref (sad X 123)), none, none] [] → sW X 3 cs s.1 27 [some (.ref (sad X 123)), some (.int s.2), none] [] := by
  refine lp_ind (P := fun (s : Mm × Int32) (r : Mm) => sW X 3 cs r 82 [some (.ref (sad X 123)), none, none] [] → sW X 3 cs s.1 27 [some (.ref (sad X 123)), some (.int s.2), none] []) ?_
  intro rec hrec s r h0 hk
  obtain ⟨σ, x1⟩ := s
  have h : gX10_layConflicts_27  rec σ x1 = some r := h0
  unfold gX10_layConflicts_27 at h
  show sW X 3 cs σ 27 [some (.ref (sad X 123)), some (.int x1), none] []
  refine s_iload_n hX dX10_layConflicts_27 rfl ?_
  refine s_aload_n hX dX10_layConflicts_28 rfl ?_
  refine s_getI hX fo_RX10_17_9 SH_123 rfl dX10_layConflicts_29 ?_
  refine s_ic_ge (tgt := 82) hX dX10_layConflicts_32 (by decide) (fun c3 => ?_) (fun c3 => ?_)
  · replace h := (if_pos c3).symm.trans h
    obtain rfl := rt1 h
    refine s_mask [true, false, false] ?_
    exact hk
  · replace h := (if_neg c3).symm.trans h
    refine s_iconst 0 hX dX10_layConflicts_35 (by decide) ?_
    refine s_istore_n hX dX10_layConflicts_36 (by decide) ?_
    obtain ⟨σ1, hc, h⟩ := bn_some h
    refine s_mask [true, true, true] ?_
    refine pX10_layConflicts_37 hX hcs _ _ _ _ hc ?_
    obtain ⟨v2, ev2, h⟩ := bd_some h
    refine s_iinc v2 hX dX10_layConflicts_76 rfl (by rw [ev2]; rfl) (by decide) ?_
    refine s_goto (tgt := 27) hX dX10_layConflicts_79 (by decide) ?_
    refine s_mask [true, true, false] ?_
    exact hrec _ _ h hk
set_option maxHeartbeats 4000000 in
theorem pX10_layConflicts_84 {X : sT} {cs : Nat × Nat} (hX : sX X cX10_layConflicts RX10 3 4 92) (hcs : cs.1 ≤ (sR X).cells ∧ cs.2 ≤ (sR X).slots)   : ∀ (n : Nat) (s : Mm × Int32) (r : Mm), qX10_layConflicts_84  n s = some r → sW X 3 cs r 120 [none, none, none] [] → sW X 3 cs s.1 84 [some (.ref (sad X 123)), some (.int s.2), none] [] := by
  refine lp_ind (P := fun (s : Mm × Int32) (r : Mm) => sW X 3 cs r 120 [none, none, none] [] → sW X 3 cs s.1 84 [some (.ref (sad X 123)), some (.int s.2), none] []) ?_
  intro rec hrec s r h0 hk
  obtain ⟨σ, x1⟩ := s
  have h : gX10_layConflicts_84  rec σ x1 = some r := h0
  unfold gX10_layConflicts_84 at h
  show sW X 3 cs σ 84 [some (.ref (sad X 123)), some (.int x1), none] []
  refine s_iload_n hX dX10_layConflicts_84 rfl ?_
  refine s_bipush 12 hX dX10_layConflicts_85 (by decide) ?_
  refine s_ic_ge (tgt := 120) hX dX10_layConflicts_87 (by decide) (fun c8 => ?_) (fun c8 => ?_)
  · replace h := (if_pos c8).symm.trans h
    obtain rfl := rt1 h
    refine s_mask [false, false, false] ?_
    exact hk
  · replace h := (if_neg c8).symm.trans h
    refine s_aload_n hX dX10_layConflicts_90 rfl ?_
    refine s_getR (r := 135) hX fo_RX10_61_9 SH_123 rfl dX10_layConflicts_91 ?_
    refine s_iconst 0 hX dX10_layConflicts_94 (by decide) ?_
    obtain ⟨c1, h⟩ := gd_some h
    refine s_iald hX SH_135 c1 dX10_layConflicts_95 ?_
    refine s_iload_n hX dX10_layConflicts_96 rfl ?_
    obtain ⟨r2, hc, h⟩ := bn_some h
    refine s_callSI _ hX (cX10_has_ok (sl X)  hc) ms_RX10_255 (fun _ => rfl) (by decide) (Nat.le_of_ble_eq_true rfl) hcs dX10_layConflicts_97 rfl ?_
    refine s_if_eq (tgt := 114) hX dX10_layConflicts_100 (by decide) (fun c7 => ?_) (fun c7 => ?_)
    · replace h := (if_pos c7).symm.trans h
      obtain ⟨v3, ev3, h⟩ := bd_some h
      refine s_iinc v3 hX dX10_layConflicts_114 rfl (by rw [ev3]; rfl) (by decide) ?_
      refine s_goto (tgt := 84) hX dX10_layConflicts_117 (by decide) ?_
      refine s_mask [true, true, false] ?_
      exact hrec _ _ h hk
    · replace h := (if_neg c7).symm.trans h
      refine s_aload_n hX dX10_layConflicts_103 rfl ?_
      refine s_iload_n hX dX10_layConflicts_104 rfl ?_
      refine s_aload_n hX dX10_layConflicts_105 rfl ?_
      refine s_getR (r := 135) hX fo_RX10_61_9 SH_123 rfl dX10_layConflicts_106 ?_
      refine s_iconst 0 hX dX10_layConflicts_109 (by decide) ?_
      obtain ⟨c4, h⟩ := gd_some h
      refine s_iald hX SH_135 c4 dX10_layConflicts_110 ?_
      obtain ⟨σ5, hc, h⟩ := bn_some h
      refine s_callVV _ hX (cX10_conflict_ok (sl X)  hc) SH_123 mv_RX10_258_9 (fun _ => rfl) (by decide) (Nat.le_of_ble_eq_true rfl) hcs dX10_layConflicts_111 rfl ?_
      obtain ⟨v6, ev6, h⟩ := bd_some h
      refine s_iinc v6 hX dX10_layConflicts_114 rfl (by rw [ev6]; rfl) (by decide) ?_
      refine s_goto (tgt := 84) hX dX10_layConflicts_117 (by decide) ?_
      refine s_mask [true, true, false] ?_
      exact hrec _ _ h hk
set_option maxHeartbeats 4000000 in
theorem cX10_layConflicts_ok (l : Launch) {σ : Mm} {σ' : Mm}  (h : fX10_layConflicts σ = some σ') : cV l yX10_layConflicts cX10_layConflicts 3 4 92 (fun ad => [.ref (ad 123)]) σ σ' := by
  refine c_enterV (fun ad => [some (.ref (ad 123)), none, none]) (by decide) (fun ad => ⟨by simp [Value.category], Nat.le_of_ble_eq_true rfl⟩) (fun ad => ⟨2, rfl⟩) ?_
  intro X _ hX hret
  have hcs : ((0 : Nat), (0 : Nat)).1 ≤ (sR X).cells ∧ ((0 : Nat), (0 : Nat)).2 ≤ (sR X).slots := ⟨Nat.zero_le _, Nat.zero_le _⟩
  generalize hcs0 : ((0 : Nat), (0 : Nat)) = cs at hcs hret ⊢
  unfold fX10_layConflicts at h
  show sW X 3 cs σ 0 [some (.ref (sad X 123)), none, none] []
  refine s_aload_n hX dX10_layConflicts_0 rfl ?_
  obtain ⟨σ1, hc, h⟩ := bn_some h
  refine s_callVV _ hX (cX10_layLive_ok (sl X)  hc) SH_123 mv_RX10_252_9 (fun _ => rfl) (by decide) (Nat.le_of_ble_eq_true rfl) hcs dX10_layConflicts_1 rfl ?_
  refine s_iconst 0 hX dX10_layConflicts_4 (by decide) ?_
  refine s_istore_n hX dX10_layConflicts_5 (by decide) ?_
  obtain ⟨σ2, hc, h⟩ := bn_some h
  refine s_mask [true, true, false] ?_
  refine pX10_layConflicts_6 hX hcs  _ _ _ hc ?_
  refine s_iconst 0 hX dX10_layConflicts_25 (by decide) ?_
  refine s_istore_n hX dX10_layConflicts_26 (by decide) ?_
  obtain ⟨σ3, hc, h⟩ := bn_some h
  refine s_mask [true, true, false] ?_
  refine pX10_layConflicts_27 hX hcs  _ _ _ hc ?_
  refine s_iconst 0 hX dX10_layConflicts_82 (by decide) ?_
  refine s_istore_n hX dX10_layConflicts_83 (by decide) ?_
  obtain ⟨σ4, hc, h⟩ := bn_some h
  refine s_mask [true, true, false] ?_
  refine pX10_layConflicts_84 hX hcs  _ _ _ hc ?_
  obtain rfl := rt1 h
  exact hret _ _ dX10_layConflicts_120
def fX10_conflicts (σ : Mm) (l1 : Int32) : Option (Int32 × Mm) :=
  bd (upm σ 123 (upd (σ 123) 0 0)) fun σ1 =>
  (fX10_isVariable σ1 l1).bind fun r2 =>
  if r2 = 0 then
  bn2 (fX10_fails σ1 1) fun r5 σ6 =>
  some (r5, σ6)
else
  (fX10_layConflicts σ1).bind fun σ3 =>
  gd l1 12 <|
  some (σ3 136 l1.toNatClampNeg, σ3)
set_option maxHeartbeats 4000000 in
theorem cX10_conflicts_ok (l : Launch) {σ : Mm} {l1 : Int32} {r : Int32} {σ' : Mm}  (h : fX10_conflicts σ l1 = some (r, σ')) : cI l yX10_conflicts cX10_conflicts 2 .int 5 114 (fun ad => [.ref (ad 123), .int l1]) σ r σ' := by
  refine c_enterI (fun ad => [some (.ref (ad 123)), some (.int l1)]) (by decide) (fun ad => ⟨by simp [Value.category], Nat.le_of_ble_eq_true rfl⟩) (fun ad => ⟨0, rfl⟩) ?_
  intro X _ hX hret
  have hcs : ((0 : Nat), (0 : Nat)).1 ≤ (sR X).cells ∧ ((0 : Nat), (0 : Nat)).2 ≤ (sR X).slots := ⟨Nat.zero_le _, Nat.zero_le _⟩
  generalize hcs0 : ((0 : Nat), (0 : Nat)) = cs at hcs hret ⊢
  unfold fX10_conflicts at h
  show sW X 2 cs σ 0 [some (.ref (sad X 123)), some (.int l1)] []
  refine s_aload_n hX dX10_conflicts_0 rfl ?_
  refine s_iconst 0 hX dX10_conflicts_1 (by decide) ?_
  obtain ⟨σ1, eσ1, h⟩ := bd_some h
  refine s_putI hX fo_RX10_1_9 SH_123 rfl dX10_conflicts_2 ?_
  refine s_mem σ1 eσ1 ?_
  refine s_iload_n hX dX10_conflicts_5 rfl ?_
  obtain ⟨r2, hc, h⟩ := bn_some h
  refine s_callSI _ hX (cX10_isVariable_ok (sl X)  hc) ms_RX10_225 (fun _ => rfl) (by decide) (Nat.le_of_ble_eq_true rfl) hcs dX10_conflicts_6 rfl ?_
  refine s_if_ne (tgt := 18) hX dX10_conflicts_9 (by decide) (fun c7 => ?_) (fun c7 => ?_)
  · replace h := (if_neg c7).symm.trans h
    refine s_aload_n hX dX10_conflicts_18 rfl ?_
    obtain ⟨σ3, hc, h⟩ := bn_some h
    refine s_callVV _ hX (cX10_layConflicts_ok (sl X)  hc) SH_123 mv_RX10_262_9 (fun _ => rfl) (by decide) (Nat.le_of_ble_eq_true rfl) hcs dX10_conflicts_19 rfl ?_
    refine s_aload_n hX dX10_conflicts_22 rfl ?_
    refine s_getR (r := 136) hX fo_RX10_64_9 SH_123 rfl dX10_conflicts_23 ?_
    refine s_iload_n hX dX10_conflicts_26 rfl ?_
    obtain ⟨c4, h⟩ := gd_some h
    refine s_iald hX SH_136 c4 dX10_conflicts_27 ?_
    obtain ⟨rfl, rfl⟩ := rt2 h
    exact hret _ _ (nzi _) dX10_conflicts_28
  · replace h := (if_pos c7).symm.trans h
    refine s_aload_n hX dX10_conflicts_12 rfl ?_
    refine s_iconst 1 hX dX10_conflicts_13 (by decide) ?_
    obtain ⟨r5, σ6, hc, h⟩ := bn2_some h
    refine s_callVI _ hX (cX10_fails_ok (sl X)  hc) SH_123 mv_RX10_217_9 (fun _ => rfl) (by decide) (Nat.le_of_ble_eq_true rfl) hcs dX10_conflicts_14 rfl ?_
    obtain ⟨rfl, rfl⟩ := rt2 h
    exact hret _ _ (nzi _) dX10_conflicts_17
def gX10_bits_4 (σ : Mm) (l0 : Int32) (rec : Int32 × Int32 → Option (Int32)) (x1 : Int32) (x2 : Int32) : Option (Int32) :=
  if 12 ≤ x2 then
  some x1
else
  bd (x1 + ((l0 >>> (x2 &&& 31)) &&& 1)) fun v1 =>
  bd (x2 + 1) fun v2 =>
  rec (v1, v2)
def qX10_bits_4 (σ : Mm) (l0 : Int32) : Nat → Int32 × Int32 → Option (Int32) := lp (fun rec s => gX10_bits_4 σ l0 rec s.1 s.2)
def fX10_bits (σ : Mm) (l0 : Int32) : Option Int32 :=
  (qX10_bits_4 σ l0 FU (0, 0)).bind fun v1 =>
  some v1
set_option maxHeartbeats 4000000 in
theorem pX10_bits_4 {X : sT} {cs : Nat × Nat} (hX : sX X cX10_bits RX10 3 0 0) (hcs : cs.1 ≤ (sR X).cells ∧ cs.2 ≤ (sR X).slots) (σ : Mm) (l0 : Int32)  : ∀ (n : Nat) (s : Int32 × Int32) (r : Int32), qX10_bits_4 σ l0 n s = some r → sW X 3 cs σ 24 [none, some (.int r), none] [] → sW X 3 cs σ 4 [some (.int l0), some (.int s.1), some (.int s.2)] [] := by
  refine lp_ind (P := fun (s : Int32 × Int32) (r : Int32) => sW X 3 cs σ 24 [none, some (.int r), none] [] → sW X 3 cs σ 4 [some (.int l0), some (.int s.1), some (.int s.2)] []) ?_
  intro rec hrec s r h0 hk
  obtain ⟨x1, x2⟩ := s
  have h : gX10_bits_4 σ l0 rec x1 x2 = some r := h0
  unfold gX10_bits_4 at h
  show sW X 3 cs σ 4 [some (.int l0), some (.int x1), some (.int x2)] []
  refine s_iload_n hX dX10_bits_4 rfl ?_
  refine s_bipush 12 hX dX10_bits_5 (by decide) ?_
  refine s_ic_ge (tgt := 24) hX dX10_bits_7 (by decide) (fun c3 => ?_) (fun c3 => ?_)
  · replace h := (if_pos c3).symm.trans h
    obtain rfl := rt1 h
    refine s_mask [false, true, false] ?_
    exact hk
  · replace h := (if_neg c3).symm.trans h
    refine s_iload_n hX dX10_bits_10 rfl ?_
    refine s_iload_n hX dX10_bits_11 rfl ?_
    refine s_iload_n hX dX10_bits_12 rfl ?_
    refine s_ishr hX dX10_bits_13 ?_
    refine s_iconst 1 hX dX10_bits_14 (by decide) ?_
    refine s_iand hX dX10_bits_15 ?_
    refine s_iadd hX dX10_bits_16 ?_
    obtain ⟨v1, ev1, h⟩ := bd_some h
    refine s_topi v1 ev1 ?_
    refine s_istore_n hX dX10_bits_17 (by decide) ?_
    obtain ⟨v2, ev2, h⟩ := bd_some h
    refine s_iinc v2 hX dX10_bits_18 rfl (by rw [ev2]; rfl) (by decide) ?_
    refine s_goto (tgt := 4) hX dX10_bits_21 (by decide) ?_
    refine s_mask [true, true, true] ?_
    exact hrec _ _ h hk
set_option maxHeartbeats 4000000 in
theorem cX10_bits_ok (l : Launch) {σ : Mm} {l0 : Int32} {r : Int32}  (h : fX10_bits σ l0 = some r) : cI l yX10_bits cX10_bits 3 .int 0 0 (fun ad => [.int l0]) σ r σ := by
  refine c_enterI (fun ad => [some (.int l0), none, none]) (by decide) (fun ad => ⟨by simp [Value.category], Nat.le_of_ble_eq_true rfl⟩) (fun ad => ⟨2, rfl⟩) ?_
  intro X _ hX hret
  have hcs : ((0 : Nat), (0 : Nat)).1 ≤ (sR X).cells ∧ ((0 : Nat), (0 : Nat)).2 ≤ (sR X).slots := ⟨Nat.zero_le _, Nat.zero_le _⟩
  generalize hcs0 : ((0 : Nat), (0 : Nat)) = cs at hcs hret ⊢
  unfold fX10_bits at h
  show sW X 3 cs σ 0 [some (.int l0), none, none] []
  refine s_iconst 0 hX dX10_bits_0 (by decide) ?_
  refine s_istore_n hX dX10_bits_1 (by decide) ?_
  refine s_iconst 0 hX dX10_bits_2 (by decide) ?_
  refine s_istore_n hX dX10_bits_3 (by decide) ?_
  obtain ⟨v1, hc, h⟩ := bn_some h
  refine s_mask [true, true, true] ?_
  refine pX10_bits_4 hX hcs _ _ _ _ _ hc ?_
  refine s_iload_n hX dX10_bits_24 rfl ?_
  obtain rfl := rt1 h
  exact hret _ _ (nzi _) dX10_bits_25
def gX10_pressure_18 (σ : Mm) (l2 : Int32) (rec : Int32 × Int32 → Option (Int32)) (x1 : Int32) (x3 : Int32) : Option (Int32) :=
  gd l2 8 <|
  if (σ 124 l2.toNatClampNeg) < x3 then
  some x1
else
  (fX10_liveOf σ l2 x3).bind fun r2 =>
  (fX10_bits σ r2).bind fun r3 =>
  bd (mx x1 r3) fun v4 =>
  bd (x3 + 1) fun v5 =>
  rec (v4, v5)
def qX10_pressure_18 (σ : Mm) (l2 : Int32) : Nat → Int32 × Int32 → Option (Int32) := lp (fun rec s => gX10_pressure_18 σ l2 rec s.1 s.2)
def gX10_pressure_8 (σ : Mm) (rec : Int32 × Int32 → Option (Int32)) (x1 : Int32) (x2 : Int32) : Option (Int32) :=
  if (σ 123 1) ≤ x2 then
  some x1
else
  (qX10_pressure_18 σ x2 FU (x1, 0)).bind fun v1 =>
  bd (x2 + 1) fun v2 =>
  rec (v1, v2)
def qX10_pressure_8 (σ : Mm) : Nat → Int32 × Int32 → Option (Int32) := lp (fun rec s => gX10_pressure_8 σ rec s.1 s.2)
def fX10_pressure (σ : Mm) : Option (Int32 × Mm) :=
  (fX10_layLive σ).bind fun σ1 =>
  (qX10_pressure_8 σ1 FU (0, 0)).bind fun v2 =>
  some (v2, σ1)
set_option maxHeartbeats 4000000 in
theorem pX10_pressure_18 {X : sT} {cs : Nat × Nat} (hX : sX X cX10_pressure RX10 4 4 92) (hcs : cs.1 ≤ (sR X).cells ∧ cs.2 ≤ (sR X).slots) (σ : Mm) (l2 : Int32)  : ∀ (n : Nat) (s : Int32 × Int32) (r : Int32), qX10_pressure_18 σ l2 n s = some r → sW X 4 cs σ 48 [some (.ref (sad X 123)), some (.int r), some (.int l2), none] [] → sW X 4 cs σ 18 [some (.ref (sad X 123)), some (.int s.1), some (.int l2), some (.int s.2)] [] := by
  refine lp_ind (P := fun (s : Int32 × Int32) (r : Int32) => sW X 4 cs σ 48 [some (.ref (sad X 123)), some (.int r), some (.int l2), none] [] → sW X 4 cs σ 18 [some (.ref (sad X 123)), some (.int s.1), some (.int l2), some (.int s.2)] []) ?_
  intro rec hrec s r h0 hk
  obtain ⟨x1, x3⟩ := s
  have h : gX10_pressure_18 σ l2 rec x1 x3 = some r := h0
  unfold gX10_pressure_18 at h
  show sW X 4 cs σ 18 [some (.ref (sad X 123)), some (.int x1), some (.int l2), some (.int x3)] []
  refine s_iload_n hX dX10_pressure_18 rfl ?_
  refine s_aload_n hX dX10_pressure_19 rfl ?_
  refine s_getR (r := 124) hX fo_RX10_23_9 SH_123 rfl dX10_pressure_20 ?_
  refine s_iload_n hX dX10_pressure_23 rfl ?_
  obtain ⟨c1, h⟩ := gd_some h
  refine s_iald hX SH_124 c1 dX10_pressure_24 ?_
  refine s_ic_gt (tgt := 48) hX dX10_pressure_25 (by decide) (fun c6 => ?_) (fun c6 => ?_)
  · replace h := (if_pos c6).symm.trans h
    obtain rfl := rt1 h
    refine s_mask [true, true, true, false] ?_
    exact hk
  · replace h := (if_neg c6).symm.trans h
    refine s_iload_n hX dX10_pressure_28 rfl ?_
    refine s_aload_n hX dX10_pressure_29 rfl ?_
    refine s_iload_n hX dX10_pressure_30 rfl ?_
    refine s_iload_n hX dX10_pressure_31 rfl ?_
    obtain ⟨r2, hc, h⟩ := bn_some h
    refine s_callVI _ hX (cX10_liveOf_ok (sl X)  hc) SH_123 mv_RX10_248_9 (fun _ => rfl) (by decide) (Nat.le_of_ble_eq_true rfl) hcs dX10_pressure_32 rfl ?_
    obtain ⟨r3, hc, h⟩ := bn_some h
    refine s_callSI _ hX (cX10_bits_ok (sl X)  hc) ms_RX10_265 (fun _ => rfl) (by decide) (Nat.le_of_ble_eq_true rfl) hcs dX10_pressure_35 rfl ?_
    refine s_max hX w7_169 (by decide) (Nat.le_of_ble_eq_true rfl) hcs dX10_pressure_38 ?_
    obtain ⟨v4, ev4, h⟩ := bd_some h
    refine s_topi v4 ev4 ?_
    refine s_istore_n hX dX10_pressure_41 (by decide) ?_
    obtain ⟨v5, ev5, h⟩ := bd_some h
    refine s_iinc v5 hX dX10_pressure_42 rfl (by rw [ev5]; rfl) (by decide) ?_
    refine s_goto (tgt := 18) hX dX10_pressure_45 (by decide) ?_
    refine s_mask [true, true, true, true] ?_
    exact hrec _ _ h hk
set_option maxHeartbeats 4000000 in
theorem pX10_pressure_8 {X : sT} {cs : Nat × Nat} (hX : sX X cX10_pressure RX10 4 4 92) (hcs : cs.1 ≤ (sR X).cells ∧ cs.2 ≤ (sR X).slots) (σ : Mm)  : ∀ (n : Nat) (s : Int32 × Int32) (r : Int32), qX10_pressure_8 σ n s = some r → sW X 4 cs σ 54 [none, some (.int r), none, none] [] → sW X 4 cs σ 8 [some (.ref (sad X 123)), some (.int s.1), some (.int s.2), none] [] := by
  refine lp_ind (P := fun (s : Int32 × Int32) (r : Int32) => sW X 4 cs σ 54 [none, some (.int r), none, none] [] → sW X 4 cs σ 8 [some (.ref (sad X 123)), some (.int s.1), some (.int s.2), none] []) ?_
  intro rec hrec s r h0 hk
  obtain ⟨x1, x2⟩ := s
  have h : gX10_pressure_8 σ rec x1 x2 = some r := h0
  unfold gX10_pressure_8 at h
  show sW X 4 cs σ 8 [some (.ref (sad X 123)), some (.int x1), some (.int x2), none] []
  refine s_iload_n hX dX10_pressure_8 rfl ?_
  refine s_aload_n hX dX10_pressure_9 rfl ?_
  refine s_getI hX fo_RX10_17_9 SH_123 rfl dX10_pressure_10 ?_
  refine s_ic_ge (tgt := 54) hX dX10_pressure_13 (by decide) (fun c3 => ?_) (fun c3 => ?_)
  · replace h := (if_pos c3).symm.trans h
    obtain rfl := rt1 h
    refine s_mask [false, true, false, false] ?_
    exact hk
  · replace h := (if_neg c3).symm.trans h
    refine s_iconst 0 hX dX10_pressure_16 (by decide) ?_
    refine s_istore_n hX dX10_pressure_17 (by decide) ?_
    obtain ⟨v1, hc, h⟩ := bn_some h
    refine s_mask [true, true, true, true] ?_
    refine pX10_pressure_18 hX hcs _ _ _ _ _ hc ?_
    obtain ⟨v2, ev2, h⟩ := bd_some h
    refine s_iinc v2 hX dX10_pressure_48 rfl (by rw [ev2]; rfl) (by decide) ?_
    refine s_goto (tgt := 8) hX dX10_pressure_51 (by decide) ?_
    refine s_mask [true, true, true, false] ?_
    exact hrec _ _ h hk
set_option maxHeartbeats 4000000 in
theorem cX10_pressure_ok (l : Launch) {σ : Mm} {r : Int32} {σ' : Mm}  (h : fX10_pressure σ = some (r, σ')) : cI l yX10_pressure cX10_pressure 4 .int 4 92 (fun ad => [.ref (ad 123)]) σ r σ' := by
  refine c_enterI (fun ad => [some (.ref (ad 123)), none, none, none]) (by decide) (fun ad => ⟨by simp [Value.category], Nat.le_of_ble_eq_true rfl⟩) (fun ad => ⟨3, rfl⟩) ?_
  intro X _ hX hret
  have hcs : ((0 : Nat), (0 : Nat)).1 ≤ (sR X).cells ∧ ((0 : Nat), (0 : Nat)).2 ≤ (sR X).slots := ⟨Nat.zero_le _, Nat.zero_le _⟩
  generalize hcs0 : ((0 : Nat), (0 : Nat)) = cs at hcs hret ⊢
  unfold fX10_pressure at h
  show sW X 4 cs σ 0 [some (.ref (sad X 123)), none, none, none] []
  refine s_aload_n hX dX10_pressure_0 rfl ?_
  obtain ⟨σ1, hc, h⟩ := bn_some h
  refine s_callVV _ hX (cX10_layLive_ok (sl X)  hc) SH_123 mv_RX10_252_9 (fun _ => rfl) (by decide) (Nat.le_of_ble_eq_true rfl) hcs dX10_pressure_1 rfl ?_
  refine s_iconst 0 hX dX10_pressure_4 (by decide) ?_
  refine s_istore_n hX dX10_pressure_5 (by decide) ?_
  refine s_iconst 0 hX dX10_pressure_6 (by decide) ?_
  refine s_istore_n hX dX10_pressure_7 (by decide) ?_
  obtain ⟨v2, hc, h⟩ := bn_some h
  refine s_mask [true, true, true, false] ?_
  refine pX10_pressure_8 hX hcs _ _ _ _ hc ?_
  refine s_iload_n hX dX10_pressure_54 rfl ?_
  obtain ⟨rfl, rfl⟩ := rt2 h
  exact hret _ _ (nzi _) dX10_pressure_55
def gX10_reached_35 (σ : Mm) (l1 : Int32) (l3 : Int32) (l4 : Int32) (rec : Int32 × Int32 → Option (Int32)) (x2 : Int32) (x5 : Int32) : Option (Int32) :=
  if (σ 123 1) ≤ x5 then
  some x2
else
  (fX10_has σ x2 l4).bind fun r1 =>
  if r1 = 0 then
  bd (x5 + 1) fun v2 =>
  rec (x2, v2)
else
  (fX10_goesTo σ l4 x5).bind fun r3 =>
  if r3 = 0 then
  bd (x5 + 1) fun v4 =>
  rec (x2, v4)
else
  if x5 = l1 then
  bd (x5 + 1) fun v5 =>
  rec (x2, v5)
else
  bd (x2 ||| (1 <<< (x5 &&& 31))) fun v6 =>
  bd (x5 + 1) fun v7 =>
  rec (v6, v7)
def qX10_reached_35 (σ : Mm) (l1 : Int32) (l3 : Int32) (l4 : Int32) : Nat → Int32 × Int32 → Option (Int32) := lp (fun rec s => gX10_reached_35 σ l1 l3 l4 rec s.1 s.2)
def gX10_reached_23 (σ : Mm) (l1 : Int32) (l3 : Int32) (rec : Int32 × Int32 → Option (Int32)) (x2 : Int32) (x4 : Int32) : Option (Int32) :=
  if (σ 123 1) ≤ x4 then
  some x2
else
  (qX10_reached_35 σ l1 l3 x4 FU (x2, 0)).bind fun v1 =>
  bd (x4 + 1) fun v2 =>
  rec (v1, v2)
def qX10_reached_23 (σ : Mm) (l1 : Int32) (l3 : Int32) : Nat → Int32 × Int32 → Option (Int32) := lp (fun rec s => gX10_reached_23 σ l1 l3 rec s.1 s.2)
def gX10_reached_12 (σ : Mm) (l1 : Int32) (rec : Int32 × Int32 → Option (Int32)) (x2 : Int32) (x3 : Int32) : Option (Int32) :=
  if (σ 123 1) ≤ x3 then
  some x2
else
  (qX10_reached_23 σ l1 x3 FU (x2, 0)).bind fun v1 =>
  bd (x3 + 1) fun v2 =>
  rec (v1, v2)
def qX10_reached_12 (σ : Mm) (l1 : Int32) : Nat → Int32 × Int32 → Option (Int32) := lp (fun rec s => gX10_reached_12 σ l1 rec s.1 s.2)
def fX10_reached (σ : Mm) (l1 : Int32) : Option Int32 :=
  jn (fun (v1 : Int32) => (qX10_reached_12 σ l1 FU (v1, 0)).bind fun v3 =>
  some v3) fun j2 =>
  if l1 = 0 then
  j2 0
else
  j2 1
set_option maxHeartbeats 4000000 in
theorem pX10_reached_35 {X : sT} {cs : Nat × Nat} (hX : sX X cX10_reached RX10 6 1 22) (hcs : cs.1 ≤ (sR X).cells ∧ cs.2 ≤ (sR X).slots) (σ : Mm) (l1 : Int32) (l3 : Int32) (l4 : Int32)  : ∀ (n : Nat) (s : Int32 × Int32) (r : Int32), qX10_reached_35 σ l1 l3 l4 n s = some r → sW X 6 cs σ 83 [some (.ref (sad X 123)), some (.int l1), some (.int r), some (.int l3), some (.int l4), none] [] → sW X 6 cs σ 35 [some (.ref (sad X 123)), some (.int l1), some (.int s.1), some (.int l3), some (.int l4), some (.int s.2)] [] := by
  refine lp_ind (P := fun (s : Int32 × Int32) (r : Int32) => sW X 6 cs σ 83 [some (.ref (sad X 123)), some (.int l1), some (.int r), some (.int l3), some (.int l4), none] [] → sW X 6 cs σ 35 [some (.ref (sad X 123)), some (.int l1), some (.int s.1), some (.int l3), some (.int l4), some (.int s.2)] []) ?_
  intro rec hrec s r h0 hk
  obtain ⟨x2, x5⟩ := s
  have h : gX10_reached_35 σ l1 l3 l4 rec x2 x5 = some r := h0
  unfold gX10_reached_35 at h
  show sW X 6 cs σ 35 [some (.ref (sad X 123)), some (.int l1), some (.int x2), some (.int l3), some (.int l4), some (.int x5)] []
  refine s_iload hX dX10_reached_35 rfl ?_
  refine s_aload_n hX dX10_reached_37 rfl ?_
  refine s_getI hX fo_RX10_17_9 SH_123 rfl dX10_reached_38 ?_
  refine s_ic_ge (tgt := 83) hX dX10_reached_41 (by decide) (fun c11 => ?_) (fun c11 => ?_)
  · replace h := (if_pos c11).symm.trans h
    obtain rfl := rt1 h
    refine s_mask [true, true, true, true, true, false] ?_
    exact hk
  · replace h := (if_neg c11).symm.trans h
    refine s_iload_n hX dX10_reached_44 rfl ?_
    refine s_iload hX dX10_reached_45 rfl ?_
    obtain ⟨r1, hc, h⟩ := bn_some h
    refine s_callSI _ hX (cX10_has_ok (sl X)  hc) ms_RX10_255 (fun _ => rfl) (by decide) (Nat.le_of_ble_eq_true rfl) hcs dX10_reached_47 rfl ?_
    refine s_if_eq (tgt := 77) hX dX10_reached_50 (by decide) (fun c10 => ?_) (fun c10 => ?_)
    · replace h := (if_pos c10).symm.trans h
      obtain ⟨v2, ev2, h⟩ := bd_some h
      refine s_iinc v2 hX dX10_reached_77 rfl (by rw [ev2]; rfl) (by decide) ?_
      refine s_goto (tgt := 35) hX dX10_reached_80 (by decide) ?_
      refine s_mask [true, true, true, true, true, true] ?_
      exact hrec _ _ h hk
    · replace h := (if_neg c10).symm.trans h
      refine s_aload_n hX dX10_reached_53 rfl ?_
      refine s_iload hX dX10_reached_54 rfl ?_
      refine s_iload hX dX10_reached_56 rfl ?_
      obtain ⟨r3, hc, h⟩ := bn_some h
      refine s_callVI _ hX (cX10_goesTo_ok (sl X)  hc) SH_123 mv_RX10_235_9 (fun _ => rfl) (by decide) (Nat.le_of_ble_eq_true rfl) hcs dX10_reached_58 rfl ?_
      refine s_if_eq (tgt := 77) hX dX10_reached_61 (by decide) (fun c9 => ?_) (fun c9 => ?_)
      · replace h := (if_pos c9).symm.trans h
        obtain ⟨v4, ev4, h⟩ := bd_some h
        refine s_iinc v4 hX dX10_reached_77 rfl (by rw [ev4]; rfl) (by decide) ?_
        refine s_goto (tgt := 35) hX dX10_reached_80 (by decide) ?_
        refine s_mask [true, true, true, true, true, true] ?_
        exact hrec _ _ h hk
      · replace h := (if_neg c9).symm.trans h
        refine s_iload hX dX10_reached_64 rfl ?_
        refine s_iload_n hX dX10_reached_66 rfl ?_
        refine s_ic_eq (tgt := 77) hX dX10_reached_67 (by decide) (fun c8 => ?_) (fun c8 => ?_)
        · replace h := (if_pos c8).symm.trans h
          obtain ⟨v5, ev5, h⟩ := bd_some h
          refine s_iinc v5 hX dX10_reached_77 rfl (by rw [ev5]; rfl) (by decide) ?_
          refine s_goto (tgt := 35) hX dX10_reached_80 (by decide) ?_
          refine s_mask [true, true, true, true, true, true] ?_
          exact hrec _ _ h hk
        · replace h := (if_neg c8).symm.trans h
          refine s_iload_n hX dX10_reached_70 rfl ?_
          refine s_iconst 1 hX dX10_reached_71 (by decide) ?_
          refine s_iload hX dX10_reached_72 rfl ?_
          refine s_ishl hX dX10_reached_74 ?_
          refine s_ior hX dX10_reached_75 ?_
          obtain ⟨v6, ev6, h⟩ := bd_some h
          refine s_topi v6 ev6 ?_
          refine s_istore_n hX dX10_reached_76 (by decide) ?_
          obtain ⟨v7, ev7, h⟩ := bd_some h
          refine s_iinc v7 hX dX10_reached_77 rfl (by rw [ev7]; rfl) (by decide) ?_
          refine s_goto (tgt := 35) hX dX10_reached_80 (by decide) ?_
          refine s_mask [true, true, true, true, true, true] ?_
          exact hrec _ _ h hk
set_option maxHeartbeats 4000000 in
theorem pX10_reached_23 {X : sT} {cs : Nat × Nat} (hX : sX X cX10_reached RX10 6 1 22) (hcs : cs.1 ≤ (sR X).cells ∧ cs.2 ≤ (sR X).slots) (σ : Mm) (l1 : Int32) (l3 : Int32)  : ∀ (n : Nat) (s : Int32 × Int32) (r : Int32), qX10_reached_23 σ l1 l3 n s = some r → sW X 6 cs σ 89 [some (.ref (sad X 123)), some (.int l1), some (.int r), some (.int l3), none, none] [] → sW X 6 cs σ 23 [some (.ref (sad X 123)), some (.int l1), some (.int s.1), some (.int l3), some (.int s.2), none] [] := by
  refine lp_ind (P := fun (s : Int32 × Int32) (r : Int32) => sW X 6 cs σ 89 [some (.ref (sad X 123)), some (.int l1), some (.int r), some (.int l3), none, none] [] → sW X 6 cs σ 23 [some (.ref (sad X 123)), some (.int l1), some (.int s.1), some (.int l3), some (.int s.2), none] []) ?_
  intro rec hrec s r h0 hk
  obtain ⟨x2, x4⟩ := s
  have h : gX10_reached_23 σ l1 l3 rec x2 x4 = some r := h0
  unfold gX10_reached_23 at h
  show sW X 6 cs σ 23 [some (.ref (sad X 123)), some (.int l1), some (.int x2), some (.int l3), some (.int x4), none] []
  refine s_iload hX dX10_reached_23 rfl ?_
  refine s_aload_n hX dX10_reached_25 rfl ?_
  refine s_getI hX fo_RX10_17_9 SH_123 rfl dX10_reached_26 ?_
  refine s_ic_ge (tgt := 89) hX dX10_reached_29 (by decide) (fun c3 => ?_) (fun c3 => ?_)
  · replace h := (if_pos c3).symm.trans h
    obtain rfl := rt1 h
    refine s_mask [true, true, true, true, false, false] ?_
    exact hk
  · replace h := (if_neg c3).symm.trans h
    refine s_iconst 0 hX dX10_reached_32 (by decide) ?_
    refine s_istore hX dX10_reached_33 (by decide) ?_
    obtain ⟨v1, hc, h⟩ := bn_some h
    refine s_mask [true, true, true, true, true, true] ?_
    refine pX10_reached_35 hX hcs _ _ _ _ _ _ _ hc ?_
    obtain ⟨v2, ev2, h⟩ := bd_some h
    refine s_iinc v2 hX dX10_reached_83 rfl (by rw [ev2]; rfl) (by decide) ?_
    refine s_goto (tgt := 23) hX dX10_reached_86 (by decide) ?_
    refine s_mask [true, true, true, true, true, false] ?_
    exact hrec _ _ h hk
set_option maxHeartbeats 4000000 in
theorem pX10_reached_12 {X : sT} {cs : Nat × Nat} (hX : sX X cX10_reached RX10 6 1 22) (hcs : cs.1 ≤ (sR X).cells ∧ cs.2 ≤ (sR X).slots) (σ : Mm) (l1 : Int32)  : ∀ (n : Nat) (s : Int32 × Int32) (r : Int32), qX10_reached_12 σ l1 n s = some r → sW X 6 cs σ 95 [none, none, some (.int r), none, none, none] [] → sW X 6 cs σ 12 [some (.ref (sad X 123)), some (.int l1), some (.int s.1), some (.int s.2), none, none] [] := by
  refine lp_ind (P := fun (s : Int32 × Int32) (r : Int32) => sW X 6 cs σ 95 [none, none, some (.int r), none, none, none] [] → sW X 6 cs σ 12 [some (.ref (sad X 123)), some (.int l1), some (.int s.1), some (.int s.2), none, none] []) ?_
  intro rec hrec s r h0 hk
  obtain ⟨x2, x3⟩ := s
  have h : gX10_reached_12 σ l1 rec x2 x3 = some r := h0
  unfold gX10_reached_12 at h
  show sW X 6 cs σ 12 [some (.ref (sad X 123)), some (.int l1), some (.int x2), some (.int x3), none, none] []
  refine s_iload_n hX dX10_reached_12 rfl ?_
  refine s_aload_n hX dX10_reached_13 rfl ?_
  refine s_getI hX fo_RX10_17_9 SH_123 rfl dX10_reached_14 ?_
  refine s_ic_ge (tgt := 95) hX dX10_reached_17 (by decide) (fun c3 => ?_) (fun c3 => ?_)
  · replace h := (if_pos c3).symm.trans h
    obtain rfl := rt1 h
    refine s_mask [false, false, true, false, false, false] ?_
    exact hk
  · replace h := (if_neg c3).symm.trans h
    refine s_iconst 0 hX dX10_reached_20 (by decide) ?_
    refine s_istore hX dX10_reached_21 (by decide) ?_
    obtain ⟨v1, hc, h⟩ := bn_some h
    refine s_mask [true, true, true, true, true, false] ?_
    refine pX10_reached_23 hX hcs _ _ _ _ _ _ hc ?_
    obtain ⟨v2, ev2, h⟩ := bd_some h
    refine s_iinc v2 hX dX10_reached_89 rfl (by rw [ev2]; rfl) (by decide) ?_
    refine s_goto (tgt := 12) hX dX10_reached_92 (by decide) ?_
    refine s_mask [true, true, true, true, false, false] ?_
    exact hrec _ _ h hk
set_option maxHeartbeats 4000000 in
theorem cX10_reached_ok (l : Launch) {σ : Mm} {l1 : Int32} {r : Int32}  (h : fX10_reached σ l1 = some r) : cI l yX10_reached cX10_reached 6 .int 1 22 (fun ad => [.ref (ad 123), .int l1]) σ r σ := by
  refine c_enterI (fun ad => [some (.ref (ad 123)), some (.int l1), none, none, none, none]) (by decide) (fun ad => ⟨by simp [Value.category], Nat.le_of_ble_eq_true rfl⟩) (fun ad => ⟨4, rfl⟩) ?_
  intro X _ hX hret
  have hcs : ((0 : Nat), (0 : Nat)).1 ≤ (sR X).cells ∧ ((0 : Nat), (0 : Nat)).2 ≤ (sR X).slots := ⟨Nat.zero_le _, Nat.zero_le _⟩
  generalize hcs0 : ((0 : Nat), (0 : Nat)) = cs at hcs hret ⊢
  unfold fX10_reached at h
  show sW X 6 cs σ 0 [some (.ref (sad X 123)), some (.int l1), none, none, none, none] []
  refine s_iload_n hX dX10_reached_0 rfl ?_
  refine jn_use (fun j => ∀ (v1 : Int32), j v1 = some r → sW X 6 cs σ 9 [some (.ref (sad X 123)), some (.int l1), none, none, none, none] [.int v1]) h ?_ ?_
  · intro v1 h
    refine s_istore_n hX dX10_reached_9 (by decide) ?_
    refine s_iconst 0 hX dX10_reached_10 (by decide) ?_
    refine s_istore_n hX dX10_reached_11 (by decide) ?_
    obtain ⟨v3, hc, h⟩ := bn_some h
    refine s_mask [true, true, true, true, false, false] ?_
    refine pX10_reached_12 hX hcs _ _ _ _ _ hc ?_
    refine s_iload_n hX dX10_reached_95 rfl ?_
    obtain rfl := rt1 h
    exact hret _ _ (nzi _) dX10_reached_96
  · intro j2 hj2 h
    refine s_if_ne (tgt := 8) hX dX10_reached_1 (by decide) (fun c4 => ?_) (fun c4 => ?_)
    · replace h := (if_neg c4).symm.trans h
      refine s_iconst 1 hX dX10_reached_8 (by decide) ?_
      refine s_mask [true, true, false, false, false, false] ?_
      exact hj2 _ h
    · replace h := (if_pos c4).symm.trans h
      refine s_iconst 0 hX dX10_reached_4 (by decide) ?_
      refine s_goto (tgt := 9) hX dX10_reached_5 (by decide) ?_
      refine s_mask [true, true, false, false, false, false] ?_
      exact hj2 _ h
