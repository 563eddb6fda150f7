def fX8_signAt (σ : Mm) (l1 : Int32) : Option Int32 :=
  if (σ 113 2) ≤ l1 then
  some 0
else
  gd l1 80 <|
  gc (σ 114 l1.toNatClampNeg) (some (σ 114 l1.toNatClampNeg))
set_option maxHeartbeats 4000000 in
theorem cX8_signAt_ok (l : Launch) {σ : Mm} {l1 : Int32} {r : Int32}  (h : fX8_signAt σ l1 = some r) : cI l yX8_signAt cX8_signAt 2 .char 0 0 (fun ad => [.ref (ad 113), .int l1]) σ r σ := by
  refine c_enterI (fun ad => [some (.ref (ad 113)), some (.int l1)]) (by decide) (fun ad => ⟨by simp [Value.category], Nat.le_of_ble_eq_true rfl⟩) (fun ad => ⟨0, rfl⟩) ?_
  intro X _ hX hret
  have hcs : ((0 : Nat), (0 : Nat)).1 ≤ (sR X).cells ∧ ((0 : Nat), (0 : Nat)).2 ≤ (sR X).slots := ⟨Nat.zero_le _, Nat.zero_le _⟩
  generalize hcs0 : ((0 : Nat), (0 : Nat)) = cs at hcs hret ⊢
  unfold fX8_signAt at h
  show sW X 2 cs σ 0 [some (.ref (sad X 113)), some (.int l1)] []
  refine s_iload_n hX dX8_signAt_0 rfl ?_
  refine s_aload_n hX dX8_signAt_1 rfl ?_
  refine s_getI hX fo_RX8_42_7 SH_113 rfl dX8_signAt_2 ?_
  refine s_ic_ge (tgt := 17) hX dX8_signAt_5 (by decide) (fun c2 => ?_) (fun c2 => ?_)
  · replace h := (if_pos c2).symm.trans h
    refine s_iconst 0 hX dX8_signAt_17 (by decide) ?_
    obtain rfl := rt1 h
    exact hret _ _ nc0 dX8_signAt_18
  · replace h := (if_neg c2).symm.trans h
    refine s_aload_n hX dX8_signAt_8 rfl ?_
    refine s_getR (r := 114) hX fo_RX8_9_7 SH_113 rfl dX8_signAt_9 ?_
    refine s_iload_n hX dX8_signAt_12 rfl ?_
    obtain ⟨c1, h⟩ := gd_some h
    refine s_cald hX SH_114 c1 dX8_signAt_13 ?_
    refine s_goto (tgt := 18) hX dX8_signAt_14 (by decide) ?_
    obtain ⟨hv, h⟩ := gc_some h
    obtain rfl := rt1 h
    exact hret _ _ (gc_n hv) dX8_signAt_18
def fX8_take (σ : Mm) (l1 : Int32) : Option (Int32 × Mm) :=
  if (σ 113 2) ≤ (σ 113 3) then
  some (0, σ)
else
  gd (σ 113 3) 80 <|
  if (σ 114 (σ 113 3).toNatClampNeg) = l1 then
  bd (upm σ 113 (upd (σ 113) 3 ((σ 113 3) + 1))) fun σ2 =>
  some (1, σ2)
else
  some (0, σ)
set_option maxHeartbeats 4000000 in
theorem cX8_take_ok (l : Launch) {σ : Mm} {l1 : Int32} {r : Int32} {σ' : Mm}  (h : fX8_take σ l1 = some (r, σ')) : cI l yX8_take cX8_take 2 .boolean 0 0 (fun ad => [.ref (ad 113), .int l1]) σ r σ' := by
  refine c_enterI (fun ad => [some (.ref (ad 113)), some (.int l1)]) (by decide) (fun ad => ⟨by simp [Value.category], Nat.le_of_ble_eq_true rfl⟩) (fun ad => ⟨0, rfl⟩) ?_
  intro X _ hX hret
  have hcs : ((0 : Nat), (0 : Nat)).1 ≤ (sR X).cells ∧ ((0 : Nat), (0 : Nat)).2 ≤ (sR X).slots := ⟨Nat.zero_le _, Nat.zero_le _⟩
  generalize hcs0 : ((0 : Nat), (0 : Nat)) = cs at hcs hret ⊢
  unfold fX8_take at h
  show sW X 2 cs σ 0 [some (.ref (sad X 113)), some (.int l1)] []
  refine s_aload_n hX dX8_take_0 rfl ?_
  refine s_getI hX fo_RX8_26_7 SH_113 rfl dX8_take_1 ?_
  refine s_aload_n hX dX8_take_4 rfl ?_
  refine s_getI hX fo_RX8_42_7 SH_113 rfl dX8_take_5 ?_
  refine s_ic_ge (tgt := 24) hX dX8_take_8 (by decide) (fun c4 => ?_) (fun c4 => ?_)
  · replace h := (if_pos c4).symm.trans h
    refine s_iconst 0 hX dX8_take_24 (by decide) ?_
    obtain ⟨rfl, rfl⟩ := rt2 h
    exact hret _ _ nz0 dX8_take_25
  · replace h := (if_neg c4).symm.trans h
    refine s_aload_n hX dX8_take_11 rfl ?_
    refine s_getR (r := 114) hX fo_RX8_9_7 SH_113 rfl dX8_take_12 ?_
    refine s_aload_n hX dX8_take_15 rfl ?_
    refine s_getI hX fo_RX8_26_7 SH_113 rfl dX8_take_16 ?_
    obtain ⟨c1, h⟩ := gd_some h
    refine s_cald hX SH_114 c1 dX8_take_19 ?_
    refine s_iload_n hX dX8_take_20 rfl ?_
    refine s_ic_eq (tgt := 26) hX dX8_take_21 (by decide) (fun c3 => ?_) (fun c3 => ?_)
    · replace h := (if_pos c3).symm.trans h
      refine s_aload_n hX dX8_take_26 rfl ?_
      refine s_dup hX dX8_take_27 rfl ?_
      refine s_getI hX fo_RX8_26_7 SH_113 rfl dX8_take_28 ?_
      refine s_iconst 1 hX dX8_take_31 (by decide) ?_
      refine s_iadd hX dX8_take_32 ?_
      obtain ⟨σ2, eσ2, h⟩ := bd_some h
      refine s_putI hX fo_RX8_26_7 SH_113 rfl dX8_take_33 ?_
      refine s_mem σ2 eσ2 ?_
      refine s_iconst 1 hX dX8_take_36 (by decide) ?_
      obtain ⟨rfl, rfl⟩ := rt2 h
      exact hret _ _ nz1 dX8_take_37
    · replace h := (if_neg c3).symm.trans h
      refine s_iconst 0 hX dX8_take_24 (by decide) ?_
      obtain ⟨rfl, rfl⟩ := rt2 h
      exact hret _ _ nz0 dX8_take_25
def gX8_takeWord_t2_2  (rec : Mm × Int32 → Option ((Int32 × Mm) ⊕ (Mm))) (σ : Mm) (x2 : Int32) : Option ((Int32 × Mm) ⊕ (Mm)) :=
  if 5 ≤ x2 then
  some (.inr σ)
else
  gd x2 5 <|
  bn2 (fX8_take σ (schr 2 x2.toNatClampNeg)) fun r2 σ3 =>
  if r2 = 0 then
  some (.inl (0, σ3))
else
  bd (x2 + 1) fun v4 =>
  rec (σ3, v4)
def qX8_takeWord_t2_2  : Nat → Mm × Int32 → Option ((Int32 × Mm) ⊕ (Mm)) := lp (fun rec s => gX8_takeWord_t2_2  rec s.1 s.2)
def fX8_takeWord_t2 (σ : Mm) : Option (Int32 × Mm) :=
  bns (qX8_takeWord_t2_2  FU (σ, 0)) (fun u => some u) (fun σ1 => some (1, σ1))
set_option maxHeartbeats 4000000 in
theorem pX8_takeWord_t2_2 {X : sT} {cs : Nat × Nat} (hX : sX X cX8_takeWord RX8 3 4 130) (hcs : cs.1 ≤ (sR X).cells ∧ cs.2 ≤ (sR X).slots)   : ∀ (n : Nat) (s : Mm × Int32) (r : (Int32 × Mm) ⊕ (Mm)), qX8_takeWord_t2_2  n s = some r → (∀ u, r = .inr u → sW X 3 cs u 30 [none, none, none] []) → (∀ u, r = .inl u → ∀ pc L, narrow .boolean (.int u.1) = .int u.1 → decode cX8_takeWord pc = .ok (.ireturn, 1) → sW X 3 cs u.2 pc L [.int u.1]) → sW X 3 cs s.1 2 [some (.ref (sad X 113)), some (.ref (sad X 1002)), some (.int s.2)] [] := by
  refine lp_ind (P := fun (s : Mm × Int32) (r : (Int32 × Mm) ⊕ (Mm)) => (∀ u, r = .inr u → sW X 3 cs u 30 [none, none, none] []) → (∀ u, r = .inl u → ∀ pc L, narrow .boolean (.int u.1) = .int u.1 → decode cX8_takeWord pc = .ok (.ireturn, 1) → sW X 3 cs u.2 pc L [.int u.1]) → sW X 3 cs s.1 2 [some (.ref (sad X 113)), some (.ref (sad X 1002)), some (.int s.2)] []) ?_
  intro rec hrec s r h0 hk hr
  obtain ⟨σ, x2⟩ := s
  have h : gX8_takeWord_t2_2  rec σ x2 = some r := h0
  unfold gX8_takeWord_t2_2 at h
  show sW X 3 cs σ 2 [some (.ref (sad X 113)), some (.ref (sad X 1002)), some (.int x2)] []
  refine s_iload_n hX dX8_takeWord_2 rfl ?_
  refine s_aload_n hX dX8_takeWord_3 rfl ?_
  refine s_callStr (i := 2) (fun _ => []) hX (by decide) (cJ0_length_ok (sl X) (by decide)) mz_len (fun _ => rfl) (by decide) (Nat.le_of_ble_eq_true rfl) hcs dX8_takeWord_4 rfl ?_
  refine s_topi 5 (by decide) ?_
  refine s_ic_ge (tgt := 30) hX dX8_takeWord_7 (by decide) (fun c6 => ?_) (fun c6 => ?_)
  · replace h := (if_pos c6).symm.trans h
    obtain rfl := rt1 h
    refine s_mask [false, false, false] ?_
    exact hk _ rfl
  · replace h := (if_neg c6).symm.trans h
    refine s_aload_n hX dX8_takeWord_10 rfl ?_
    refine s_aload_n hX dX8_takeWord_11 rfl ?_
    refine s_iload_n hX dX8_takeWord_12 rfl ?_
    obtain ⟨c1, h⟩ := gd_some h
    refine s_callStr (i := 2) _ hX (by decide) (cJ0_charAt_ok (sl X) (by decide) c1) mz_chr (fun _ => rfl) (by decide) (Nat.le_of_ble_eq_true rfl) hcs dX8_takeWord_13 rfl ?_
    obtain ⟨r2, σ3, hc, h⟩ := bn2_some h
    refine s_callVI _ hX (cX8_take_ok (sl X)  hc) SH_113 mv_RX8_53_7 (fun _ => rfl) (by decide) (Nat.le_of_ble_eq_true rfl) hcs dX8_takeWord_16 rfl ?_
    refine s_if_ne (tgt := 24) hX dX8_takeWord_19 (by decide) (fun c5 => ?_) (fun c5 => ?_)
    · replace h := (if_neg c5).symm.trans h
      obtain ⟨v4, ev4, h⟩ := bd_some h
      refine s_iinc v4 hX dX8_takeWord_24 rfl (by rw [ev4]; rfl) (by decide) ?_
      refine s_goto (tgt := 2) hX dX8_takeWord_27 (by decide) ?_
      refine s_mask [true, true, true] ?_
      exact hrec _ _ h hk hr
    · replace h := (if_pos c5).symm.trans h
      refine s_iconst 0 hX dX8_takeWord_22 (by decide) ?_
      obtain rfl := rt1 h
      exact hr _ rfl _ _ nz0 dX8_takeWord_23
set_option maxHeartbeats 4000000 in
theorem cX8_takeWord_t2_ok (l : Launch) {σ : Mm} {r : Int32} {σ' : Mm}  (h : fX8_takeWord_t2 σ = some (r, σ')) : cI l yX8_takeWord cX8_takeWord 3 .boolean 4 130 (fun ad => [.ref (ad 113), .ref (ad 1002)]) σ r σ' := by
  refine c_enterI (fun ad => [some (.ref (ad 113)), some (.ref (ad 1002)), none]) (by decide) (fun ad => ⟨by simp [Value.category], Nat.le_of_ble_eq_true rfl⟩) (fun ad => ⟨1, rfl⟩) ?_
  intro X _ hX hret
  have hcs : ((0 : Nat), (0 : Nat)).1 ≤ (sR X).cells ∧ ((0 : Nat), (0 : Nat)).2 ≤ (sR X).slots := ⟨Nat.zero_le _, Nat.zero_le _⟩
  generalize hcs0 : ((0 : Nat), (0 : Nat)) = cs at hcs hret ⊢
  unfold fX8_takeWord_t2 at h
  show sW X 3 cs σ 0 [some (.ref (sad X 113)), some (.ref (sad X 1002)), none] []
  refine s_iconst 0 hX dX8_takeWord_0 (by decide) ?_
  refine s_istore_n hX dX8_takeWord_1 (by decide) ?_
  refine s_mask [true, true, true] ?_
  rcases bns_some h with ⟨u, hc, h⟩ | ⟨u, hc, h⟩
  · cases h
    exact pX8_takeWord_t2_2 hX hcs  _ _ _ hc (fun _ e => nomatch e) (fun w e pc L nn d => by cases e; exact hret pc L nn d)
  · obtain ⟨σ1, e0⟩ : ∃ z, z = u := ⟨u, rfl⟩
    subst e0
    refine pX8_takeWord_t2_2 hX hcs  _ _ _ hc (fun w e => ?_) (fun w e => nomatch e)
    cases e
    refine s_iconst 1 hX dX8_takeWord_30 (by decide) ?_
    obtain ⟨rfl, rfl⟩ := rt2 h
    exact hret _ _ nz1 dX8_takeWord_31
def fX8_takeVariable (σ : Mm) : Option (Int32 × Mm) :=
  (fX8_signAt σ (σ 113 3)).bind fun r1 =>
  if r1 < 97 then
  some ((-1), σ)
else
  if r1 ≤ 108 then
  bd (upm σ 113 (upd (σ 113) 3 ((σ 113 3) + 1))) fun σ2 =>
  some (r1 - 97, σ2)
else
  some ((-1), σ)
set_option maxHeartbeats 4000000 in
theorem cX8_takeVariable_ok (l : Launch) {σ : Mm} {r : Int32} {σ' : Mm}  (h : fX8_takeVariable σ = some (r, σ')) : cI l yX8_takeVariable cX8_takeVariable 2 .int 1 21 (fun ad => [.ref (ad 113)]) σ r σ' := by
  refine c_enterI (fun ad => [some (.ref (ad 113)), none]) (by decide) (fun ad => ⟨by simp [Value.category], Nat.le_of_ble_eq_true rfl⟩) (fun ad => ⟨1, rfl⟩) ?_
  intro X _ hX hret
  have hcs : ((0 : Nat), (0 : Nat)).1 ≤ (sR X).cells ∧ ((0 : Nat), (0 : Nat)).2 ≤ (sR X).slots := ⟨Nat.zero_le _, Nat.zero_le _⟩
  generalize hcs0 : ((0 : Nat), (0 : Nat)) = cs at hcs hret ⊢
  unfold fX8_takeVariable at h
  show sW X 2 cs σ 0 [some (.ref (sad X 113)), none] []
  refine s_aload_n hX dX8_takeVariable_0 rfl ?_
  refine s_aload_n hX dX8_takeVariable_1 rfl ?_
  refine s_getI hX fo_RX8_26_7 SH_113 rfl dX8_takeVariable_2 ?_
  obtain ⟨r1, hc, h⟩ := bn_some h
  refine s_callVI _ hX (cX8_signAt_ok (sl X)  hc) SH_113 mv_RX8_45_7 (fun _ => rfl) (by decide) (Nat.le_of_ble_eq_true rfl) hcs dX8_takeVariable_5 rfl ?_
  refine s_istore_n hX dX8_takeVariable_8 (by decide) ?_
  refine s_iload_n hX dX8_takeVariable_9 rfl ?_
  refine s_bipush 97 hX dX8_takeVariable_10 (by decide) ?_
  refine s_ic_lt (tgt := 21) hX dX8_takeVariable_12 (by decide) (fun c4 => ?_) (fun c4 => ?_)
  · replace h := (if_pos c4).symm.trans h
    refine s_iconst (-1) hX dX8_takeVariable_21 (by decide) ?_
    obtain ⟨rfl, rfl⟩ := rt2 h
    exact hret _ _ (nzi _) dX8_takeVariable_22
  · replace h := (if_neg c4).symm.trans h
    refine s_iload_n hX dX8_takeVariable_15 rfl ?_
    refine s_bipush 108 hX dX8_takeVariable_16 (by decide) ?_
    refine s_ic_le (tgt := 23) hX dX8_takeVariable_18 (by decide) (fun c3 => ?_) (fun c3 => ?_)
    · replace h := (if_pos c3).symm.trans h
      refine s_aload_n hX dX8_takeVariable_23 rfl ?_
      refine s_dup hX dX8_takeVariable_24 rfl ?_
      refine s_getI hX fo_RX8_26_7 SH_113 rfl dX8_takeVariable_25 ?_
      refine s_iconst 1 hX dX8_takeVariable_28 (by decide) ?_
      refine s_iadd hX dX8_takeVariable_29 ?_
      obtain ⟨σ2, eσ2, h⟩ := bd_some h
      refine s_putI hX fo_RX8_26_7 SH_113 rfl dX8_takeVariable_30 ?_
      refine s_mem σ2 eσ2 ?_
      refine s_iload_n hX dX8_takeVariable_33 rfl ?_
      refine s_bipush 97 hX dX8_takeVariable_34 (by decide) ?_
      refine s_isub hX dX8_takeVariable_36 ?_
      obtain ⟨rfl, rfl⟩ := rt2 h
      exact hret _ _ (nzi _) dX8_takeVariable_37
    · replace h := (if_neg c3).symm.trans h
      refine s_iconst (-1) hX dX8_takeVariable_21 (by decide) ?_
      obtain ⟨rfl, rfl⟩ := rt2 h
      exact hret _ _ (nzi _) dX8_takeVariable_22
def fX8_finishDraft (σ : Mm) (l1 : Int32) (l2 : Int32) (l3 : Int32) (l4 : Int32) : Option (Int32 × Mm) :=
  jn (fun (v1 : Int32) => jn (fun (v3 : Int32) => jn (fun (v5 : Int32) => if v1 = 0 then
  if v3 = 0 then
  if v5 = 0 then
  (fX0_finish σ 115 l1 l2 l3 l4).bind fun σ7 =>
  some (1, σ7)
else
  some (0, σ)
else
  some (0, σ)
else
  some (0, σ)) fun j6 =>
  if l1 = 1 then
  if l4 = (-1) then
  j6 1
else
  j6 0
else
  j6 0) fun j4 =>
  if l1 = 2 then
  j4 0
else
  if l3 = (-1) then
  j4 1
else
  j4 0) fun j2 =>
  if l1 = 0 then
  j2 0
else
  if l2 = (-1) then
  j2 1
else
  j2 0
set_option maxHeartbeats 4000000 in
theorem cX8_finishDraft_ok (l : Launch) {σ : Mm} {l1 : Int32} {l2 : Int32} {l3 : Int32} {l4 : Int32} {r : Int32} {σ' : Mm}  (h : fX8_finishDraft σ l1 l2 l3 l4 = some (r, σ')) : cI l yX8_finishDraft cX8_finishDraft 8 .boolean 1 24 (fun ad => [.ref (ad 113), .int l1, .int l2, .int l3, .int l4]) σ r σ' := by
  refine c_enterI (fun ad => [some (.ref (ad 113)), some (.int l1), some (.int l2), some (.int l3), some (.int l4), none, none, none]) (by decide) (fun ad => ⟨by simp [Value.category], Nat.le_of_ble_eq_true rfl⟩) (fun ad => ⟨3, rfl⟩) ?_
  intro X _ hX hret
  have hcs : ((0 : Nat), (0 : Nat)).1 ≤ (sR X).cells ∧ ((0 : Nat), (0 : Nat)).2 ≤ (sR X).slots := ⟨Nat.zero_le _, Nat.zero_le _⟩
  generalize hcs0 : ((0 : Nat), (0 : Nat)) = cs at hcs hret ⊢
  unfold fX8_finishDraft at h
  show sW X 8 cs σ 0 [some (.ref (sad X 113)), some (.int l1), some (.int l2), some (.int l3), some (.int l4), none, none, none] []
  refine s_iload_n hX dX8_finishDraft_0 rfl ?_
  refine jn_use (fun j => ∀ (v1 : Int32), j v1 = some (r, σ') → sW X 8 cs σ 14 [some (.ref (sad X 113)), some (.int l1), some (.int l2), some (.int l3), some (.int l4), none, none, none] [.int v1]) h ?_ ?_
  · intro v1 h
    refine s_istore hX dX8_finishDraft_14 (by decide) ?_
    refine s_iload_n hX dX8_finishDraft_16 rfl ?_
    refine s_iconst 2 hX dX8_finishDraft_17 (by decide) ?_
    refine jn_use (fun j => ∀ (v3 : Int32), j v3 = some (r, σ') → sW X 8 cs σ 31 [some (.ref (sad X 113)), some (.int l1), some (.int l2), some (.int l3), some (.int l4), some (.int v1), none, none] [.int v3]) h ?_ ?_
    · intro v3 h
      refine s_istore hX dX8_finishDraft_31 (by decide) ?_
      refine s_iload_n hX dX8_finishDraft_33 rfl ?_
      refine s_iconst 1 hX dX8_finishDraft_34 (by decide) ?_
      refine jn_use (fun j => ∀ (v5 : Int32), j v5 = some (r, σ') → sW X 8 cs σ 49 [some (.ref (sad X 113)), some (.int l1), some (.int l2), some (.int l3), some (.int l4), some (.int v1), some (.int v3), none] [.int v5]) h ?_ ?_
      · intro v5 h
        refine s_istore hX dX8_finishDraft_49 (by decide) ?_
        refine s_iload hX dX8_finishDraft_51 rfl ?_
        refine s_if_ne (tgt := 66) hX dX8_finishDraft_53 (by decide) (fun c10 => ?_) (fun c10 => ?_)
        · replace h := (if_neg c10).symm.trans h
          refine s_iconst 0 hX dX8_finishDraft_66 (by decide) ?_
          obtain ⟨rfl, rfl⟩ := rt2 h
          exact hret _ _ nz0 dX8_finishDraft_67
        · replace h := (if_pos c10).symm.trans h
          refine s_iload hX dX8_finishDraft_56 rfl ?_
          refine s_if_ne (tgt := 66) hX dX8_finishDraft_58 (by decide) (fun c9 => ?_) (fun c9 => ?_)
          · replace h := (if_neg c9).symm.trans h
            refine s_iconst 0 hX dX8_finishDraft_66 (by decide) ?_
            obtain ⟨rfl, rfl⟩ := rt2 h
            exact hret _ _ nz0 dX8_finishDraft_67
          · replace h := (if_pos c9).symm.trans h
            refine s_iload hX dX8_finishDraft_61 rfl ?_
            refine s_if_eq (tgt := 68) hX dX8_finishDraft_63 (by decide) (fun c8 => ?_) (fun c8 => ?_)
            · replace h := (if_pos c8).symm.trans h
              refine s_aload_n hX dX8_finishDraft_68 rfl ?_
              refine s_getR (r := 115) hX fo_RX8_18_7 SH_113 rfl dX8_finishDraft_69 ?_
              refine s_iload_n hX dX8_finishDraft_72 rfl ?_
              refine s_iload_n hX dX8_finishDraft_73 rfl ?_
              refine s_iload_n hX dX8_finishDraft_74 rfl ?_
              refine s_iload hX dX8_finishDraft_75 rfl ?_
              obtain ⟨σ7, hc, h⟩ := bn_some h
              refine s_callVV _ hX (cX0_finish_ok (sl X) isB_115 hc) (isB_0 isB_115) mv_RX8_94_0 (fun _ => rfl) (by decide) (Nat.le_of_ble_eq_true rfl) hcs dX8_finishDraft_77 rfl ?_
              refine s_iconst 1 hX dX8_finishDraft_80 (by decide) ?_
              obtain ⟨rfl, rfl⟩ := rt2 h
              exact hret _ _ nz1 dX8_finishDraft_81
            · replace h := (if_neg c8).symm.trans h
              refine s_iconst 0 hX dX8_finishDraft_66 (by decide) ?_
              obtain ⟨rfl, rfl⟩ := rt2 h
              exact hret _ _ nz0 dX8_finishDraft_67
      · intro j6 hj6 h
        refine s_ic_ne (tgt := 48) hX dX8_finishDraft_35 (by decide) (fun c12 => ?_) (fun c12 => ?_)
        · replace h := (if_neg c12).symm.trans h
          refine s_iconst 0 hX dX8_finishDraft_48 (by decide) ?_
          refine s_mask [true, true, true, true, true, true, true, false] ?_
          exact hj6 _ h
        · replace h := (if_pos c12).symm.trans h
          refine s_iload hX dX8_finishDraft_38 rfl ?_
          refine s_iconst (-1) hX dX8_finishDraft_40 (by decide) ?_
          refine s_ic_ne (tgt := 48) hX dX8_finishDraft_41 (by decide) (fun c11 => ?_) (fun c11 => ?_)
          · replace h := (if_neg c11).symm.trans h
            refine s_iconst 0 hX dX8_finishDraft_48 (by decide) ?_
            refine s_mask [true, true, true, true, true, true, true, false] ?_
            exact hj6 _ h
          · replace h := (if_pos c11).symm.trans h
            refine s_iconst 1 hX dX8_finishDraft_44 (by decide) ?_
            refine s_goto (tgt := 49) hX dX8_finishDraft_45 (by decide) ?_
            refine s_mask [true, true, true, true, true, true, true, false] ?_
            exact hj6 _ h
    · intro j4 hj4 h
      refine s_ic_eq (tgt := 30) hX dX8_finishDraft_18 (by decide) (fun c14 => ?_) (fun c14 => ?_)
      · replace h := (if_pos c14).symm.trans h
        refine s_iconst 0 hX dX8_finishDraft_30 (by decide) ?_
        refine s_mask [true, true, true, true, true, true, false, false] ?_
        exact hj4 _ h
      · replace h := (if_neg c14).symm.trans h
        refine s_iload_n hX dX8_finishDraft_21 rfl ?_
        refine s_iconst (-1) hX dX8_finishDraft_22 (by decide) ?_
        refine s_ic_ne (tgt := 30) hX dX8_finishDraft_23 (by decide) (fun c13 => ?_) (fun c13 => ?_)
        · replace h := (if_neg c13).symm.trans h
          refine s_iconst 0 hX dX8_finishDraft_30 (by decide) ?_
          refine s_mask [true, true, true, true, true, true, false, false] ?_
          exact hj4 _ h
        · replace h := (if_pos c13).symm.trans h
          refine s_iconst 1 hX dX8_finishDraft_26 (by decide) ?_
          refine s_goto (tgt := 31) hX dX8_finishDraft_27 (by decide) ?_
          refine s_mask [true, true, true, true, true, true, false, false] ?_
          exact hj4 _ h
  · intro j2 hj2 h
    refine s_if_eq (tgt := 13) hX dX8_finishDraft_1 (by decide) (fun c16 => ?_) (fun c16 => ?_)
    · replace h := (if_pos c16).symm.trans h
      refine s_iconst 0 hX dX8_finishDraft_13 (by decide) ?_
      refine s_mask [true, true, true, true, true, false, false, false] ?_
      exact hj2 _ h
    · replace h := (if_neg c16).symm.trans h
      refine s_iload_n hX dX8_finishDraft_4 rfl ?_
      refine s_iconst (-1) hX dX8_finishDraft_5 (by decide) ?_
      refine s_ic_ne (tgt := 13) hX dX8_finishDraft_6 (by decide) (fun c15 => ?_) (fun c15 => ?_)
      · replace h := (if_neg c15).symm.trans h
        refine s_iconst 0 hX dX8_finishDraft_13 (by decide) ?_
        refine s_mask [true, true, true, true, true, false, false, false] ?_
        exact hj2 _ h
      · replace h := (if_pos c15).symm.trans h
        refine s_iconst 1 hX dX8_finishDraft_9 (by decide) ?_
        refine s_goto (tgt := 14) hX dX8_finishDraft_10 (by decide) ?_
        refine s_mask [true, true, true, true, true, false, false, false] ?_
        exact hj2 _ h
def gX8_takeWord_t1_2  (rec : Mm × Int32 → Option ((Int32 × Mm) ⊕ (Mm))) (σ : Mm) (x2 : Int32) : Option ((Int32 × Mm) ⊕ (Mm)) :=
  if 3 ≤ x2 then
  some (.inr σ)
else
  gd x2 3 <|
  bn2 (fX8_take σ (schr 1 x2.toNatClampNeg)) fun r2 σ3 =>
  if r2 = 0 then
  some (.inl (0, σ3))
else
  bd (x2 + 1) fun v4 =>
  rec (σ3, v4)
def qX8_takeWord_t1_2  : Nat → Mm × Int32 → Option ((Int32 × Mm) ⊕ (Mm)) := lp (fun rec s => gX8_takeWord_t1_2  rec s.1 s.2)
def fX8_takeWord_t1 (σ : Mm) : Option (Int32 × Mm) :=
  bns (qX8_takeWord_t1_2  FU (σ, 0)) (fun u => some u) (fun σ1 => some (1, σ1))
set_option maxHeartbeats 4000000 in
theorem pX8_takeWord_t1_2 {X : sT} {cs : Nat × Nat} (hX : sX X cX8_takeWord RX8 3 4 130) (hcs : cs.1 ≤ (sR X).cells ∧ cs.2 ≤ (sR X).slots)   : ∀ (n : Nat) (s : Mm × Int32) (r : (Int32 × Mm) ⊕ (Mm)), qX8_takeWord_t1_2  n s = some r → (∀ u, r = .inr u → sW X 3 cs u 30 [none, none, none] []) → (∀ u, r = .inl u → ∀ pc L, narrow .boolean (.int u.1) = .int u.1 → decode cX8_takeWord pc = .ok (.ireturn, 1) → sW X 3 cs u.2 pc L [.int u.1]) → sW X 3 cs s.1 2 [some (.ref (sad X 113)), some (.ref (sad X 1001)), some (.int s.2)] [] := by
  refine lp_ind (P := fun (s : Mm × Int32) (r : (Int32 × Mm) ⊕ (Mm)) => (∀ u, r = .inr u → sW X 3 cs u 30 [none, none, none] []) → (∀ u, r = .inl u → ∀ pc L, narrow .boolean (.int u.1) = .int u.1 → decode cX8_takeWord pc = .ok (.ireturn, 1) → sW X 3 cs u.2 pc L [.int u.1]) → sW X 3 cs s.1 2 [some (.ref (sad X 113)), some (.ref (sad X 1001)), some (.int s.2)] []) ?_
  intro rec hrec s r h0 hk hr
  obtain ⟨σ, x2⟩ := s
  have h : gX8_takeWord_t1_2  rec σ x2 = some r := h0
  unfold gX8_takeWord_t1_2 at h
  show sW X 3 cs σ 2 [some (.ref (sad X 113)), some (.ref (sad X 1001)), some (.int x2)] []
  refine s_iload_n hX dX8_takeWord_2 rfl ?_
  refine s_aload_n hX dX8_takeWord_3 rfl ?_
  refine s_callStr (i := 1) (fun _ => []) hX (by decide) (cJ0_length_ok (sl X) (by decide)) mz_len (fun _ => rfl) (by decide) (Nat.le_of_ble_eq_true rfl) hcs dX8_takeWord_4 rfl ?_
  refine s_topi 3 (by decide) ?_
  refine s_ic_ge (tgt := 30) hX dX8_takeWord_7 (by decide) (fun c6 => ?_) (fun c6 => ?_)
  · replace h := (if_pos c6).symm.trans h
    obtain rfl := rt1 h
    refine s_mask [false, false, false] ?_
    exact hk _ rfl
  · replace h := (if_neg c6).symm.trans h
    refine s_aload_n hX dX8_takeWord_10 rfl ?_
    refine s_aload_n hX dX8_takeWord_11 rfl ?_
    refine s_iload_n hX dX8_takeWord_12 rfl ?_
    obtain ⟨c1, h⟩ := gd_some h
    refine s_callStr (i := 1) _ hX (by decide) (cJ0_charAt_ok (sl X) (by decide) c1) mz_chr (fun _ => rfl) (by decide) (Nat.le_of_ble_eq_true rfl) hcs dX8_takeWord_13 rfl ?_
    obtain ⟨r2, σ3, hc, h⟩ := bn2_some h
    refine s_callVI _ hX (cX8_take_ok (sl X)  hc) SH_113 mv_RX8_53_7 (fun _ => rfl) (by decide) (Nat.le_of_ble_eq_true rfl) hcs dX8_takeWord_16 rfl ?_
    refine s_if_ne (tgt := 24) hX dX8_takeWord_19 (by decide) (fun c5 => ?_) (fun c5 => ?_)
    · replace h := (if_neg c5).symm.trans h
      obtain ⟨v4, ev4, h⟩ := bd_some h
      refine s_iinc v4 hX dX8_takeWord_24 rfl (by rw [ev4]; rfl) (by decide) ?_
      refine s_goto (tgt := 2) hX dX8_takeWord_27 (by decide) ?_
      refine s_mask [true, true, true] ?_
      exact hrec _ _ h hk hr
    · replace h := (if_pos c5).symm.trans h
      refine s_iconst 0 hX dX8_takeWord_22 (by decide) ?_
      obtain rfl := rt1 h
      exact hr _ rfl _ _ nz0 dX8_takeWord_23
set_option maxHeartbeats 4000000 in
theorem cX8_takeWord_t1_ok (l : Launch) {σ : Mm} {r : Int32} {σ' : Mm}  (h : fX8_takeWord_t1 σ = some (r, σ')) : cI l yX8_takeWord cX8_takeWord 3 .boolean 4 130 (fun ad => [.ref (ad 113), .ref (ad 1001)]) σ r σ' := by
  refine c_enterI (fun ad => [some (.ref (ad 113)), some (.ref (ad 1001)), none]) (by decide) (fun ad => ⟨by simp [Value.category], Nat.le_of_ble_eq_true rfl⟩) (fun ad => ⟨1, rfl⟩) ?_
  intro X _ hX hret
  have hcs : ((0 : Nat), (0 : Nat)).1 ≤ (sR X).cells ∧ ((0 : Nat), (0 : Nat)).2 ≤ (sR X).slots := ⟨Nat.zero_le _, Nat.zero_le _⟩
  generalize hcs0 : ((0 : Nat), (0 : Nat)) = cs at hcs hret ⊢
  unfold fX8_takeWord_t1 at h
  show sW X 3 cs σ 0 [some (.ref (sad X 113)), some (.ref (sad X 1001)), none] []
  refine s_iconst 0 hX dX8_takeWord_0 (by decide) ?_
  refine s_istore_n hX dX8_takeWord_1 (by decide) ?_
  refine s_mask [true, true, true] ?_
  rcases bns_some h with ⟨u, hc, h⟩ | ⟨u, hc, h⟩
  · cases h
    exact pX8_takeWord_t1_2 hX hcs  _ _ _ hc (fun _ e => nomatch e) (fun w e pc L nn d => by cases e; exact hret pc L nn d)
  · obtain ⟨σ1, e0⟩ : ∃ z, z = u := ⟨u, rfl⟩
    subst e0
    refine pX8_takeWord_t1_2 hX hcs  _ _ _ hc (fun w e => ?_) (fun w e => nomatch e)
    cases e
    refine s_iconst 1 hX dX8_takeWord_30 (by decide) ?_
    obtain ⟨rfl, rfl⟩ := rt2 h
    exact hret _ _ nz1 dX8_takeWord_31
def fX8_isDigit (σ : Mm) (l0 : Int32) : Option Int32 :=
  if l0 < 48 then
  some 0
else
  if 57 < l0 then
  some 0
else
  some 1
set_option maxHeartbeats 4000000 in
theorem cX8_isDigit_ok (l : Launch) {σ : Mm} {l0 : Int32} {r : Int32}  (h : fX8_isDigit σ l0 = some r) : cI l yX8_isDigit cX8_isDigit 1 .boolean 0 0 (fun ad => [.int l0]) σ r σ := by
  refine c_enterI (fun ad => [some (.int l0)]) (by decide) (fun ad => ⟨by simp [Value.category], Nat.le_of_ble_eq_true rfl⟩) (fun ad => ⟨0, rfl⟩) ?_
  intro X _ hX hret
  have hcs : ((0 : Nat), (0 : Nat)).1 ≤ (sR X).cells ∧ ((0 : Nat), (0 : Nat)).2 ≤ (sR X).slots := ⟨Nat.zero_le _, Nat.zero_le _⟩
  generalize hcs0 : ((0 : Nat), (0 : Nat)) = cs at hcs hret ⊢
  unfold fX8_isDigit at h
  show sW X 1 cs σ 0 [some (.int l0)] []
  refine s_iload_n hX dX8_isDigit_0 rfl ?_
  refine s_bipush 48 hX dX8_isDigit_1 (by decide) ?_
  refine s_ic_lt (tgt := 16) hX dX8_isDigit_3 (by decide) (fun c2 => ?_) (fun c2 => ?_)
  · replace h := (if_pos c2).symm.trans h
    refine s_iconst 0 hX dX8_isDigit_16 (by decide) ?_
    obtain rfl := rt1 h
    exact hret _ _ nz0 dX8_isDigit_17
  · replace h := (if_neg c2).symm.trans h
    refine s_iload_n hX dX8_isDigit_6 rfl ?_
    refine s_bipush 57 hX dX8_isDigit_7 (by decide) ?_
    refine s_ic_gt (tgt := 16) hX dX8_isDigit_9 (by decide) (fun c1 => ?_) (fun c1 => ?_)
    · replace h := (if_pos c1).symm.trans h
      refine s_iconst 0 hX dX8_isDigit_16 (by decide) ?_
      obtain rfl := rt1 h
      exact hret _ _ nz0 dX8_isDigit_17
    · replace h := (if_neg c1).symm.trans h
      refine s_iconst 1 hX dX8_isDigit_12 (by decide) ?_
      refine s_goto (tgt := 17) hX dX8_isDigit_13 (by decide) ?_
      obtain rfl := rt1 h
      exact hret _ _ nz1 dX8_isDigit_17
def fX8_takeBlock (σ : Mm) : Option (Int32 × Mm) :=
  (fX8_signAt σ (σ 113 3)).bind fun r1 =>
  (fX8_isDigit σ r1).bind fun r2 =>
  if r2 = 0 then
  some ((-1), σ)
else
  if (r1 - 48) < (σ 113 4) then
  bd (upm σ 113 (upd (σ 113) 3 ((σ 113 3) + 1))) fun σ3 =>
  some (r1 - 48, σ3)
else
  some ((-1), σ)
set_option maxHeartbeats 4000000 in
theorem cX8_takeBlock_ok (l : Launch) {σ : Mm} {r : Int32} {σ' : Mm}  (h : fX8_takeBlock σ = some (r, σ')) : cI l yX8_takeBlock cX8_takeBlock 2 .int 1 21 (fun ad => [.ref (ad 113)]) σ r σ' := by
  refine c_enterI (fun ad => [some (.ref (ad 113)), none]) (by decide) (fun ad => ⟨by simp [Value.category], Nat.le_of_ble_eq_true rfl⟩) (fun ad => ⟨1, rfl⟩) ?_
  intro X _ hX hret
  have hcs : ((0 : Nat), (0 : Nat)).1 ≤ (sR X).cells ∧ ((0 : Nat), (0 : Nat)).2 ≤ (sR X).slots := ⟨Nat.zero_le _, Nat.zero_le _⟩
  generalize hcs0 : ((0 : Nat), (0 : Nat)) = cs at hcs hret ⊢
  unfold fX8_takeBlock at h
  show sW X 2 cs σ 0 [some (.ref (sad X 113)), none] []
  refine s_aload_n hX dX8_takeBlock_0 rfl ?_
  refine s_aload_n hX dX8_takeBlock_1 rfl ?_
  refine s_getI hX fo_RX8_26_7 SH_113 rfl dX8_takeBlock_2 ?_
  obtain ⟨r1, hc, h⟩ := bn_some h
  refine s_callVI _ hX (cX8_signAt_ok (sl X)  hc) SH_113 mv_RX8_45_7 (fun _ => rfl) (by decide) (Nat.le_of_ble_eq_true rfl) hcs dX8_takeBlock_5 rfl ?_
  refine s_istore_n hX dX8_takeBlock_8 (by decide) ?_
  refine s_iload_n hX dX8_takeBlock_9 rfl ?_
  obtain ⟨r2, hc, h⟩ := bn_some h
  refine s_callSI _ hX (cX8_isDigit_ok (sl X)  hc) ms_RX8_57 (fun _ => rfl) (by decide) (Nat.le_of_ble_eq_true rfl) hcs dX8_takeBlock_10 rfl ?_
  refine s_if_eq (tgt := 27) hX dX8_takeBlock_13 (by decide) (fun c5 => ?_) (fun c5 => ?_)
  · replace h := (if_pos c5).symm.trans h
    refine s_iconst (-1) hX dX8_takeBlock_27 (by decide) ?_
    obtain ⟨rfl, rfl⟩ := rt2 h
    exact hret _ _ (nzi _) dX8_takeBlock_28
  · replace h := (if_neg c5).symm.trans h
    refine s_iload_n hX dX8_takeBlock_16 rfl ?_
    refine s_bipush 48 hX dX8_takeBlock_17 (by decide) ?_
    refine s_isub hX dX8_takeBlock_19 ?_
    refine s_aload_n hX dX8_takeBlock_20 rfl ?_
    refine s_getI hX fo_RX8_22_7 SH_113 rfl dX8_takeBlock_21 ?_
    refine s_ic_lt (tgt := 29) hX dX8_takeBlock_24 (by decide) (fun c4 => ?_) (fun c4 => ?_)
    · replace h := (if_pos c4).symm.trans h
      refine s_aload_n hX dX8_takeBlock_29 rfl ?_
      refine s_dup hX dX8_takeBlock_30 rfl ?_
      refine s_getI hX fo_RX8_26_7 SH_113 rfl dX8_takeBlock_31 ?_
      refine s_iconst 1 hX dX8_takeBlock_34 (by decide) ?_
      refine s_iadd hX dX8_takeBlock_35 ?_
      obtain ⟨σ3, eσ3, h⟩ := bd_some h
      refine s_putI hX fo_RX8_26_7 SH_113 rfl dX8_takeBlock_36 ?_
      refine s_mem σ3 eσ3 ?_
      refine s_iload_n hX dX8_takeBlock_39 rfl ?_
      refine s_bipush 48 hX dX8_takeBlock_40 (by decide) ?_
      refine s_isub hX dX8_takeBlock_42 ?_
      obtain ⟨rfl, rfl⟩ := rt2 h
      exact hret _ _ (nzi _) dX8_takeBlock_43
    · replace h := (if_neg c4).symm.trans h
      refine s_iconst (-1) hX dX8_takeBlock_27 (by decide) ?_
      obtain ⟨rfl, rfl⟩ := rt2 h
      exact hret _ _ (nzi _) dX8_takeBlock_28
def fX8_parseBranch (σ : Mm) : Option (Int32 × Mm) :=
  bn2 (fX8_takeVariable σ) fun r1 σ2 =>
  if r1 = (-1) then
  some (0, σ2)
else
  bn2 (fX8_take σ2 32) fun r3 σ4 =>
  if r3 = 0 then
  some (0, σ4)
else
  bn2 (fX8_takeBlock σ4) fun r5 σ6 =>
  if r5 = (-1) then
  some (0, σ6)
else
  bn2 (fX8_take σ6 32) fun r7 σ8 =>
  if r7 = 0 then
  some (0, σ8)
else
  bn2 (fX8_takeBlock σ8) fun r9 σ10 =>
  bn2 (fX8_finishDraft σ10 1 r1 r5 r9) fun r11 σ12 =>
  gb r11 (some (r11, σ12))
set_option maxHeartbeats 4000000 in
theorem cX8_parseBranch_ok (l : Launch) {σ : Mm} {r : Int32} {σ' : Mm}  (h : fX8_parseBranch σ = some (r, σ')) : cI l yX8_parseBranch cX8_parseBranch 3 .boolean 2 51 (fun ad => [.ref (ad 113)]) σ r σ' := by
  refine c_enterI (fun ad => [some (.ref (ad 113)), none, none]) (by decide) (fun ad => ⟨by simp [Value.category], Nat.le_of_ble_eq_true rfl⟩) (fun ad => ⟨2, rfl⟩) ?_
  intro X _ hX hret
  have hcs : ((0 : Nat), (0 : Nat)).1 ≤ (sR X).cells ∧ ((0 : Nat), (0 : Nat)).2 ≤ (sR X).slots := ⟨Nat.zero_le _, Nat.zero_le _⟩
  generalize hcs0 : ((0 : Nat), (0 : Nat)) = cs at hcs hret ⊢
  unfold fX8_parseBranch at h
  show sW X 3 cs σ 0 [some (.ref (sad X 113)), none, none] []
  refine s_aload_n hX dX8_parseBranch_0 rfl ?_
  obtain ⟨r1, σ2, hc, h⟩ := bn2_some h
  refine s_callVI _ hX (cX8_takeVariable_ok (sl X)  hc) SH_113 mv_RX8_49_7 (fun _ => rfl) (by decide) (Nat.le_of_ble_eq_true rfl) hcs dX8_parseBranch_1 rfl ?_
  refine s_istore_n hX dX8_parseBranch_4 (by decide) ?_
  refine s_iload_n hX dX8_parseBranch_5 rfl ?_
  refine s_iconst (-1) hX dX8_parseBranch_6 (by decide) ?_
  refine s_ic_eq (tgt := 19) hX dX8_parseBranch_7 (by decide) (fun c16 => ?_) (fun c16 => ?_)
  · replace h := (if_pos c16).symm.trans h
    refine s_iconst 0 hX dX8_parseBranch_19 (by decide) ?_
    obtain ⟨rfl, rfl⟩ := rt2 h
    exact hret _ _ nz0 dX8_parseBranch_20
  · replace h := (if_neg c16).symm.trans h
    refine s_aload_n hX dX8_parseBranch_10 rfl ?_
    refine s_bipush 32 hX dX8_parseBranch_11 (by decide) ?_
    obtain ⟨r3, σ4, hc, h⟩ := bn2_some h
    refine s_callVI _ hX (cX8_take_ok (sl X)  hc) SH_113 mv_RX8_53_7 (fun _ => rfl) (by decide) (Nat.le_of_ble_eq_true rfl) hcs dX8_parseBranch_13 rfl ?_
    refine s_if_ne (tgt := 21) hX dX8_parseBranch_16 (by decide) (fun c15 => ?_) (fun c15 => ?_)
    · replace h := (if_neg c15).symm.trans h
      refine s_aload_n hX dX8_parseBranch_21 rfl ?_
      obtain ⟨r5, σ6, hc, h⟩ := bn2_some h
      refine s_callVI _ hX (cX8_takeBlock_ok (sl X)  hc) SH_113 mv_RX8_80_7 (fun _ => rfl) (by decide) (Nat.le_of_ble_eq_true rfl) hcs dX8_parseBranch_22 rfl ?_
      refine s_istore_n hX dX8_parseBranch_25 (by decide) ?_
      refine s_iload_n hX dX8_parseBranch_26 rfl ?_
      refine s_iconst (-1) hX dX8_parseBranch_27 (by decide) ?_
      refine s_ic_eq (tgt := 40) hX dX8_parseBranch_28 (by decide) (fun c14 => ?_) (fun c14 => ?_)
      · replace h := (if_pos c14).symm.trans h
        refine s_iconst 0 hX dX8_parseBranch_40 (by decide) ?_
        obtain ⟨rfl, rfl⟩ := rt2 h
        exact hret _ _ nz0 dX8_parseBranch_41
      · replace h := (if_neg c14).symm.trans h
        refine s_aload_n hX dX8_parseBranch_31 rfl ?_
        refine s_bipush 32 hX dX8_parseBranch_32 (by decide) ?_
        obtain ⟨r7, σ8, hc, h⟩ := bn2_some h
        refine s_callVI _ hX (cX8_take_ok (sl X)  hc) SH_113 mv_RX8_53_7 (fun _ => rfl) (by decide) (Nat.le_of_ble_eq_true rfl) hcs dX8_parseBranch_34 rfl ?_
        refine s_if_ne (tgt := 42) hX dX8_parseBranch_37 (by decide) (fun c13 => ?_) (fun c13 => ?_)
        · replace h := (if_neg c13).symm.trans h
          refine s_aload_n hX dX8_parseBranch_42 rfl ?_
          refine s_iconst 1 hX dX8_parseBranch_43 (by decide) ?_
          refine s_iload_n hX dX8_parseBranch_44 rfl ?_
          refine s_iload_n hX dX8_parseBranch_45 rfl ?_
          refine s_aload_n hX dX8_parseBranch_46 rfl ?_
          obtain ⟨r9, σ10, hc, h⟩ := bn2_some h
          refine s_callVI _ hX (cX8_takeBlock_ok (sl X)  hc) SH_113 mv_RX8_80_7 (fun _ => rfl) (by decide) (Nat.le_of_ble_eq_true rfl) hcs dX8_parseBranch_47 rfl ?_
          obtain ⟨r11, σ12, hc, h⟩ := bn2_some h
          refine s_callVI _ hX (cX8_finishDraft_ok (sl X)  hc) SH_113 mv_RX8_83_7 (fun _ => rfl) (by decide) (Nat.le_of_ble_eq_true rfl) hcs dX8_parseBranch_50 rfl ?_
          obtain ⟨hv, h⟩ := gb_some h
          obtain ⟨rfl, rfl⟩ := rt2 h
          exact hret _ _ (gb_n hv) dX8_parseBranch_53
        · replace h := (if_pos c13).symm.trans h
          refine s_iconst 0 hX dX8_parseBranch_40 (by decide) ?_
          obtain ⟨rfl, rfl⟩ := rt2 h
          exact hret _ _ nz0 dX8_parseBranch_41
    · replace h := (if_pos c15).symm.trans h
      refine s_iconst 0 hX dX8_parseBranch_19 (by decide) ?_
      obtain ⟨rfl, rfl⟩ := rt2 h
      exact hret _ _ nz0 dX8_parseBranch_20
def gX8_takeWord_t0_2  (rec : Mm × Int32 → Option ((Int32 × Mm) ⊕ (Mm))) (σ : Mm) (x2 : Int32) : Option ((Int32 × Mm) ⊕ (Mm)) :=
  if 3 ≤ x2 then
  some (.inr σ)
else
  gd x2 3 <|
  bn2 (fX8_take σ (schr 0 x2.toNatClampNeg)) fun r2 σ3 =>
  if r2 = 0 then
  some (.inl (0, σ3))
else
  bd (x2 + 1) fun v4 =>
  rec (σ3, v4)
def qX8_takeWord_t0_2  : Nat → Mm × Int32 → Option ((Int32 × Mm) ⊕ (Mm)) := lp (fun rec s => gX8_takeWord_t0_2  rec s.1 s.2)
def fX8_takeWord_t0 (σ : Mm) : Option (Int32 × Mm) :=
  bns (qX8_takeWord_t0_2  FU (σ, 0)) (fun u => some u) (fun σ1 => some (1, σ1))
set_option maxHeartbeats 4000000 in
theorem pX8_takeWord_t0_2 {X : sT} {cs : Nat × Nat} (hX : sX X cX8_takeWord RX8 3 4 130) (hcs : cs.1 ≤ (sR X).cells ∧ cs.2 ≤ (sR X).slots)   : ∀ (n : Nat) (s : Mm × Int32) (r : (Int32 × Mm) ⊕ (Mm)), qX8_takeWord_t0_2  n s = some r → (∀ u, r = .inr u → sW X 3 cs u 30 [none, none, none] []) → (∀ u, r = .inl u → ∀ pc L, narrow .boolean (.int u.1) = .int u.1 → decode cX8_takeWord pc = .ok (.ireturn, 1) → sW X 3 cs u.2 pc L [.int u.1]) → sW X 3 cs s.1 2 [some (.ref (sad X 113)), some (.ref (sad X 1000)), some (.int s.2)] [] := by
  refine lp_ind (P := fun (s : Mm × Int32) (r : (Int32 × Mm) ⊕ (Mm)) => (∀ u, r = .inr u → sW X 3 cs u 30 [none, none, none] []) → (∀ u, r = .inl u → ∀ pc L, narrow .boolean (.int u.1) = .int u.1 → decode cX8_takeWord pc = .ok (.ireturn, 1) → sW X 3 cs u.2 pc L [.int u.1]) → sW X 3 cs s.1 2 [some (.ref (sad X 113)), some (.ref (sad X 1000)), some (.int s.2)] []) ?_
  intro rec hrec s r h0 hk hr
  obtain ⟨σ, x2⟩ := s
  have h : gX8_takeWord_t0_2  rec σ x2 = some r := h0
  unfold gX8_takeWord_t0_2 at h
  show sW X 3 cs σ 2 [some (.ref (sad X 113)), some (.ref (sad X 1000)), some (.int x2)] []
  refine s_iload_n hX dX8_takeWord_2 rfl ?_
  refine s_aload_n hX dX8_takeWord_3 rfl ?_
  refine s_callStr (i := 0) (fun _ => []) hX (by decide) (cJ0_length_ok (sl X) (by decide)) mz_len (fun _ => rfl) (by decide) (Nat.le_of_ble_eq_true rfl) hcs dX8_takeWord_4 rfl ?_
  refine s_topi 3 (by decide) ?_
  refine s_ic_ge (tgt := 30) hX dX8_takeWord_7 (by decide) (fun c6 => ?_) (fun c6 => ?_)
  · replace h := (if_pos c6).symm.trans h
    obtain rfl := rt1 h
    refine s_mask [false, false, false] ?_
    exact hk _ rfl
  · replace h := (if_neg c6).symm.trans h
    refine s_aload_n hX dX8_takeWord_10 rfl ?_
    refine s_aload_n hX dX8_takeWord_11 rfl ?_
    refine s_iload_n hX dX8_takeWord_12 rfl ?_
    obtain ⟨c1, h⟩ := gd_some h
    refine s_callStr (i := 0) _ hX (by decide) (cJ0_charAt_ok (sl X) (by decide) c1) mz_chr (fun _ => rfl) (by decide) (Nat.le_of_ble_eq_true rfl) hcs dX8_takeWord_13 rfl ?_
    obtain ⟨r2, σ3, hc, h⟩ := bn2_some h
    refine s_callVI _ hX (cX8_take_ok (sl X)  hc) SH_113 mv_RX8_53_7 (fun _ => rfl) (by decide) (Nat.le_of_ble_eq_true rfl) hcs dX8_takeWord_16 rfl ?_
    refine s_if_ne (tgt := 24) hX dX8_takeWord_19 (by decide) (fun c5 => ?_) (fun c5 => ?_)
    · replace h := (if_neg c5).symm.trans h
      obtain ⟨v4, ev4, h⟩ := bd_some h
      refine s_iinc v4 hX dX8_takeWord_24 rfl (by rw [ev4]; rfl) (by decide) ?_
      refine s_goto (tgt := 2) hX dX8_takeWord_27 (by decide) ?_
      refine s_mask [true, true, true] ?_
      exact hrec _ _ h hk hr
    · replace h := (if_pos c5).symm.trans h
      refine s_iconst 0 hX dX8_takeWord_22 (by decide) ?_
      obtain rfl := rt1 h
      exact hr _ rfl _ _ nz0 dX8_takeWord_23
set_option maxHeartbeats 4000000 in
theorem cX8_takeWord_t0_ok (l : Launch) {σ : Mm} {r : Int32} {σ' : Mm}  (h : fX8_takeWord_t0 σ = some (r, σ')) : cI l yX8_takeWord cX8_takeWord 3 .boolean 4 130 (fun ad => [.ref (ad 113), .ref (ad 1000)]) σ r σ' := by
  refine c_enterI (fun ad => [some (.ref (ad 113)), some (.ref (ad 1000)), none]) (by decide) (fun ad => ⟨by simp [Value.category], Nat.le_of_ble_eq_true rfl⟩) (fun ad => ⟨1, rfl⟩) ?_
  intro X _ hX hret
  have hcs : ((0 : Nat), (0 : Nat)).1 ≤ (sR X).cells ∧ ((0 : Nat), (0 : Nat)).2 ≤ (sR X).slots := ⟨Nat.zero_le _, Nat.zero_le _⟩
  generalize hcs0 : ((0 : Nat), (0 : Nat)) = cs at hcs hret ⊢
  unfold fX8_takeWord_t0 at h
  show sW X 3 cs σ 0 [some (.ref (sad X 113)), some (.ref (sad X 1000)), none] []
  refine s_iconst 0 hX dX8_takeWord_0 (by decide) ?_
  refine s_istore_n hX dX8_takeWord_1 (by decide) ?_
  refine s_mask [true, true, true] ?_
  rcases bns_some h with ⟨u, hc, h⟩ | ⟨u, hc, h⟩
  · cases h
    exact pX8_takeWord_t0_2 hX hcs  _ _ _ hc (fun _ e => nomatch e) (fun w e pc L nn d => by cases e; exact hret pc L nn d)
  · obtain ⟨σ1, e0⟩ : ∃ z, z = u := ⟨u, rfl⟩
    subst e0
    refine pX8_takeWord_t0_2 hX hcs  _ _ _ hc (fun w e => ?_) (fun w e => nomatch e)
    cases e
    refine s_iconst 1 hX dX8_takeWord_30 (by decide) ?_
    obtain ⟨rfl, rfl⟩ := rt2 h
    exact hret _ _ nz1 dX8_takeWord_31
def fX8_parseEnding (σ : Mm) : Option (Int32 × Mm) :=
  (fX8_signAt σ (σ 113 3)).bind fun r1 =>
  if r1 = 103 then
  bn2 (fX8_takeWord_t0 σ) fun r18 σ19 =>
  if r18 = 0 then
  some (0, σ19)
else
  bn2 (fX8_takeBlock σ19) fun r20 σ21 =>
  bn2 (fX8_finishDraft σ21 0 (-1) r20 (-1)) fun r22 σ23 =>
  if r22 = 0 then
  some (0, σ23)
else
  some (1, σ23)
else
  (fX8_signAt σ (σ 113 3)).bind fun r2 =>
  if r2 = 105 then
  bn2 (fX8_takeWord_t1 σ) fun r11 σ12 =>
  if r11 = 0 then
  some (0, σ12)
else
  bn2 (fX8_parseBranch σ12) fun r13 σ14 =>
  if r13 = 0 then
  some (0, σ14)
else
  some (1, σ14)
else
  bn2 (fX8_takeWord_t2 σ) fun r3 σ4 =>
  if r3 = 0 then
  some (0, σ4)
else
  bn2 (fX8_takeVariable σ4) fun r5 σ6 =>
  bn2 (fX8_finishDraft σ6 2 r5 (-1) (-1)) fun r7 σ8 =>
  if r7 = 0 then
  some (0, σ8)
else
  some (1, σ8)
set_option maxHeartbeats 4000000 in
theorem cX8_parseEnding_ok (l : Launch) {σ : Mm} {r : Int32} {σ' : Mm}  (h : fX8_parseEnding σ = some (r, σ')) : cI l yX8_parseEnding cX8_parseEnding 1 .boolean 5 152 (fun ad => [.ref (ad 113)]) σ r σ' := by
  refine c_enterI (fun ad => [some (.ref (ad 113))]) (by decide) (fun ad => ⟨by simp [Value.category], Nat.le_of_ble_eq_true rfl⟩) (fun ad => ⟨0, rfl⟩) ?_
  intro X _ hX hret
  have hcs : ((0 : Nat), (0 : Nat)).1 ≤ (sR X).cells ∧ ((0 : Nat), (0 : Nat)).2 ≤ (sR X).slots := ⟨Nat.zero_le _, Nat.zero_le _⟩
  generalize hcs0 : ((0 : Nat), (0 : Nat)) = cs at hcs hret ⊢
  unfold fX8_parseEnding at h
  show sW X 1 cs σ 0 [some (.ref (sad X 113))] []
  refine s_aload_n hX dX8_parseEnding_0 rfl ?_
  refine s_aload_n hX dX8_parseEnding_1 rfl ?_
  refine s_getI hX fo_RX8_26_7 SH_113 rfl dX8_parseEnding_2 ?_
  obtain ⟨r1, hc, h⟩ := bn_some h
  refine s_callVI _ hX (cX8_signAt_ok (sl X)  hc) SH_113 mv_RX8_45_7 (fun _ => rfl) (by decide) (Nat.le_of_ble_eq_true rfl) hcs dX8_parseEnding_5 rfl ?_
  refine s_bipush 103 hX dX8_parseEnding_8 (by decide) ?_
  refine s_ic_ne (tgt := 42) hX dX8_parseEnding_10 (by decide) (fun c26 => ?_) (fun c26 => ?_)
  · replace h := (if_neg c26).symm.trans h
    refine s_aload_n hX dX8_parseEnding_42 rfl ?_
    refine s_aload_n hX dX8_parseEnding_43 rfl ?_
    refine s_getI hX fo_RX8_26_7 SH_113 rfl dX8_parseEnding_44 ?_
    obtain ⟨r2, hc, h⟩ := bn_some h
    refine s_callVI _ hX (cX8_signAt_ok (sl X)  hc) SH_113 mv_RX8_45_7 (fun _ => rfl) (by decide) (Nat.le_of_ble_eq_true rfl) hcs dX8_parseEnding_47 rfl ?_
    refine s_bipush 105 hX dX8_parseEnding_50 (by decide) ?_
    refine s_ic_ne (tgt := 77) hX dX8_parseEnding_52 (by decide) (fun c17 => ?_) (fun c17 => ?_)
    · replace h := (if_neg c17).symm.trans h
      refine s_aload_n hX dX8_parseEnding_77 rfl ?_
      refine s_ldcS (i := 2) hX (by decide) rfl rfl dX8_parseEnding_78 ?_
      obtain ⟨r3, σ4, hc, h⟩ := bn2_some h
      refine s_callVI _ hX (cX8_takeWord_t2_ok (sl X)  hc) SH_113 mv_RX8_76_7 (fun _ => rfl) (by decide) (Nat.le_of_ble_eq_true rfl) hcs dX8_parseEnding_80 rfl ?_
      refine s_if_eq (tgt := 104) hX dX8_parseEnding_83 (by decide) (fun c10 => ?_) (fun c10 => ?_)
      · replace h := (if_pos c10).symm.trans h
        refine s_iconst 0 hX dX8_parseEnding_104 (by decide) ?_
        obtain ⟨rfl, rfl⟩ := rt2 h
        exact hret _ _ nz0 dX8_parseEnding_105
      · replace h := (if_neg c10).symm.trans h
        refine s_aload_n hX dX8_parseEnding_86 rfl ?_
        refine s_iconst 2 hX dX8_parseEnding_87 (by decide) ?_
        refine s_aload_n hX dX8_parseEnding_88 rfl ?_
        obtain ⟨r5, σ6, hc, h⟩ := bn2_some h
        refine s_callVI _ hX (cX8_takeVariable_ok (sl X)  hc) SH_113 mv_RX8_49_7 (fun _ => rfl) (by decide) (Nat.le_of_ble_eq_true rfl) hcs dX8_parseEnding_89 rfl ?_
        refine s_iconst (-1) hX dX8_parseEnding_92 (by decide) ?_
        refine s_iconst (-1) hX dX8_parseEnding_93 (by decide) ?_
        obtain ⟨r7, σ8, hc, h⟩ := bn2_some h
        refine s_callVI _ hX (cX8_finishDraft_ok (sl X)  hc) SH_113 mv_RX8_83_7 (fun _ => rfl) (by decide) (Nat.le_of_ble_eq_true rfl) hcs dX8_parseEnding_94 rfl ?_
        refine s_if_eq (tgt := 104) hX dX8_parseEnding_97 (by decide) (fun c9 => ?_) (fun c9 => ?_)
        · replace h := (if_pos c9).symm.trans h
          refine s_iconst 0 hX dX8_parseEnding_104 (by decide) ?_
          obtain ⟨rfl, rfl⟩ := rt2 h
          exact hret _ _ nz0 dX8_parseEnding_105
        · replace h := (if_neg c9).symm.trans h
          refine s_iconst 1 hX dX8_parseEnding_100 (by decide) ?_
          refine s_goto (tgt := 105) hX dX8_parseEnding_101 (by decide) ?_
          obtain ⟨rfl, rfl⟩ := rt2 h
          exact hret _ _ nz1 dX8_parseEnding_105
    · replace h := (if_pos c17).symm.trans h
      refine s_aload_n hX dX8_parseEnding_55 rfl ?_
      refine s_ldcS (i := 1) hX (by decide) rfl rfl dX8_parseEnding_56 ?_
      obtain ⟨r11, σ12, hc, h⟩ := bn2_some h
      refine s_callVI _ hX (cX8_takeWord_t1_ok (sl X)  hc) SH_113 mv_RX8_76_7 (fun _ => rfl) (by decide) (Nat.le_of_ble_eq_true rfl) hcs dX8_parseEnding_58 rfl ?_
      refine s_if_eq (tgt := 75) hX dX8_parseEnding_61 (by decide) (fun c16 => ?_) (fun c16 => ?_)
      · replace h := (if_pos c16).symm.trans h
        refine s_iconst 0 hX dX8_parseEnding_75 (by decide) ?_
        obtain ⟨rfl, rfl⟩ := rt2 h
        exact hret _ _ nz0 dX8_parseEnding_76
      · replace h := (if_neg c16).symm.trans h
        refine s_aload_n hX dX8_parseEnding_64 rfl ?_
        obtain ⟨r13, σ14, hc, h⟩ := bn2_some h
        refine s_callVI _ hX (cX8_parseBranch_ok (sl X)  hc) SH_113 mv_RX8_89_7 (fun _ => rfl) (by decide) (Nat.le_of_ble_eq_true rfl) hcs dX8_parseEnding_65 rfl ?_
        refine s_if_eq (tgt := 75) hX dX8_parseEnding_68 (by decide) (fun c15 => ?_) (fun c15 => ?_)
        · replace h := (if_pos c15).symm.trans h
          refine s_iconst 0 hX dX8_parseEnding_75 (by decide) ?_
          obtain ⟨rfl, rfl⟩ := rt2 h
          exact hret _ _ nz0 dX8_parseEnding_76
        · replace h := (if_neg c15).symm.trans h
          refine s_iconst 1 hX dX8_parseEnding_71 (by decide) ?_
          refine s_goto (tgt := 76) hX dX8_parseEnding_72 (by decide) ?_
          obtain ⟨rfl, rfl⟩ := rt2 h
          exact hret _ _ nz1 dX8_parseEnding_76
  · replace h := (if_pos c26).symm.trans h
    refine s_aload_n hX dX8_parseEnding_13 rfl ?_
    refine s_ldcS (i := 0) hX (by decide) rfl rfl dX8_parseEnding_14 ?_
    obtain ⟨r18, σ19, hc, h⟩ := bn2_some h
    refine s_callVI _ hX (cX8_takeWord_t0_ok (sl X)  hc) SH_113 mv_RX8_76_7 (fun _ => rfl) (by decide) (Nat.le_of_ble_eq_true rfl) hcs dX8_parseEnding_16 rfl ?_
    refine s_if_eq (tgt := 40) hX dX8_parseEnding_19 (by decide) (fun c25 => ?_) (fun c25 => ?_)
    · replace h := (if_pos c25).symm.trans h
      refine s_iconst 0 hX dX8_parseEnding_40 (by decide) ?_
      obtain ⟨rfl, rfl⟩ := rt2 h
      exact hret _ _ nz0 dX8_parseEnding_41
    · replace h := (if_neg c25).symm.trans h
      refine s_aload_n hX dX8_parseEnding_22 rfl ?_
      refine s_iconst 0 hX dX8_parseEnding_23 (by decide) ?_
      refine s_iconst (-1) hX dX8_parseEnding_24 (by decide) ?_
      refine s_aload_n hX dX8_parseEnding_25 rfl ?_
      obtain ⟨r20, σ21, hc, h⟩ := bn2_some h
      refine s_callVI _ hX (cX8_takeBlock_ok (sl X)  hc) SH_113 mv_RX8_80_7 (fun _ => rfl) (by decide) (Nat.le_of_ble_eq_true rfl) hcs dX8_parseEnding_26 rfl ?_
      refine s_iconst (-1) hX dX8_parseEnding_29 (by decide) ?_
      obtain ⟨r22, σ23, hc, h⟩ := bn2_some h
      refine s_callVI _ hX (cX8_finishDraft_ok (sl X)  hc) SH_113 mv_RX8_83_7 (fun _ => rfl) (by decide) (Nat.le_of_ble_eq_true rfl) hcs dX8_parseEnding_30 rfl ?_
      refine s_if_eq (tgt := 40) hX dX8_parseEnding_33 (by decide) (fun c24 => ?_) (fun c24 => ?_)
      · replace h := (if_pos c24).symm.trans h
        refine s_iconst 0 hX dX8_parseEnding_40 (by decide) ?_
        obtain ⟨rfl, rfl⟩ := rt2 h
        exact hret _ _ nz0 dX8_parseEnding_41
      · replace h := (if_neg c24).symm.trans h
        refine s_iconst 1 hX dX8_parseEnding_36 (by decide) ?_
        refine s_goto (tgt := 41) hX dX8_parseEnding_37 (by decide) ?_
        obtain ⟨rfl, rfl⟩ := rt2 h
        exact hret _ _ nz1 dX8_parseEnding_41
def fX8_startsInstruction (σ : Mm) : Option Int32 :=
  (fX8_signAt σ (σ 113 3)).bind fun r1 =>
  (fX8_signAt σ ((σ 113 3) + 1)).bind fun r2 =>
  jn (fun (v3 : Int32) => if r1 < 97 then
  some 0
else
  if 108 < r1 then
  some 0
else
  if v3 = 0 then
  some 1
else
  some 0) fun j4 =>
  jn (fun (_u : Unit) => if r1 = 105 then
  if r2 = 102 then
  j4 1
else
  j4 0
else
  j4 0) fun j8 =>
  if r1 = 103 then
  if r2 = 111 then
  j4 1
else
  j8 ()
else
  j8 ()
set_option maxHeartbeats 4000000 in
theorem cX8_startsInstruction_ok (l : Launch) {σ : Mm} {r : Int32}  (h : fX8_startsInstruction σ = some r) : cI l yX8_startsInstruction cX8_startsInstruction 4 .boolean 1 21 (fun ad => [.ref (ad 113)]) σ r σ := by
  refine c_enterI (fun ad => [some (.ref (ad 113)), none, none, none]) (by decide) (fun ad => ⟨by simp [Value.category], Nat.le_of_ble_eq_true rfl⟩) (fun ad => ⟨3, rfl⟩) ?_
  intro X _ hX hret
  have hcs : ((0 : Nat), (0 : Nat)).1 ≤ (sR X).cells ∧ ((0 : Nat), (0 : Nat)).2 ≤ (sR X).slots := ⟨Nat.zero_le _, Nat.zero_le _⟩
  generalize hcs0 : ((0 : Nat), (0 : Nat)) = cs at hcs hret ⊢
  unfold fX8_startsInstruction at h
  show sW X 4 cs σ 0 [some (.ref (sad X 113)), none, none, none] []
  refine s_aload_n hX dX8_startsInstruction_0 rfl ?_
  refine s_aload_n hX dX8_startsInstruction_1 rfl ?_
  refine s_getI hX fo_RX8_26_7 SH_113 rfl dX8_startsInstruction_2 ?_
  obtain ⟨r1, hc, h⟩ := bn_some h
  refine s_callVI _ hX (cX8_signAt_ok (sl X)  hc) SH_113 mv_RX8_45_7 (fun _ => rfl) (by decide) (Nat.le_of_ble_eq_true rfl) hcs dX8_startsInstruction_5 rfl ?_
  refine s_istore_n hX dX8_startsInstruction_8 (by decide) ?_
  refine s_aload_n hX dX8_startsInstruction_9 rfl ?_
  refine s_aload_n hX dX8_startsInstruction_10 rfl ?_
  refine s_getI hX fo_RX8_26_7 SH_113 rfl dX8_startsInstruction_11 ?_
  refine s_iconst 1 hX dX8_startsInstruction_14 (by decide) ?_
  refine s_iadd hX dX8_startsInstruction_15 ?_
  obtain ⟨r2, hc, h⟩ := bn_some h
  refine s_callVI _ hX (cX8_signAt_ok (sl X)  hc) SH_113 mv_RX8_45_7 (fun _ => rfl) (by decide) (Nat.le_of_ble_eq_true rfl) hcs dX8_startsInstruction_16 rfl ?_
  refine s_istore_n hX dX8_startsInstruction_19 (by decide) ?_
  refine s_iload_n hX dX8_startsInstruction_20 rfl ?_
  refine s_bipush 103 hX dX8_startsInstruction_21 (by decide) ?_
  refine jn_use (fun j => ∀ (v3 : Int32), j v3 = some r → sW X 4 cs σ 49 [none, some (.int r1), none, none] [.int v3]) h ?_ ?_
  · intro v3 h
    refine s_istore_n hX dX8_startsInstruction_49 (by decide) ?_
    refine s_iload_n hX dX8_startsInstruction_50 rfl ?_
    refine s_bipush 97 hX dX8_startsInstruction_51 (by decide) ?_
    refine s_ic_lt (tgt := 70) hX dX8_startsInstruction_53 (by decide) (fun c7 => ?_) (fun c7 => ?_)
    · replace h := (if_pos c7).symm.trans h
      refine s_iconst 0 hX dX8_startsInstruction_70 (by decide) ?_
      obtain rfl := rt1 h
      exact hret _ _ nz0 dX8_startsInstruction_71
    · replace h := (if_neg c7).symm.trans h
      refine s_iload_n hX dX8_startsInstruction_56 rfl ?_
      refine s_bipush 108 hX dX8_startsInstruction_57 (by decide) ?_
      refine s_ic_gt (tgt := 70) hX dX8_startsInstruction_59 (by decide) (fun c6 => ?_) (fun c6 => ?_)
      · replace h := (if_pos c6).symm.trans h
        refine s_iconst 0 hX dX8_startsInstruction_70 (by decide) ?_
        obtain rfl := rt1 h
        exact hret _ _ nz0 dX8_startsInstruction_71
      · replace h := (if_neg c6).symm.trans h
        refine s_iload_n hX dX8_startsInstruction_62 rfl ?_
        refine s_if_ne (tgt := 70) hX dX8_startsInstruction_63 (by decide) (fun c5 => ?_) (fun c5 => ?_)
        · replace h := (if_neg c5).symm.trans h
          refine s_iconst 0 hX dX8_startsInstruction_70 (by decide) ?_
          obtain rfl := rt1 h
          exact hret _ _ nz0 dX8_startsInstruction_71
        · replace h := (if_pos c5).symm.trans h
          refine s_iconst 1 hX dX8_startsInstruction_66 (by decide) ?_
          refine s_goto (tgt := 71) hX dX8_startsInstruction_67 (by decide) ?_
          obtain rfl := rt1 h
          exact hret _ _ nz1 dX8_startsInstruction_71
  · intro j4 hj4 h
    refine jn_use (fun j => ∀ (_u : Unit), j _u = some r → sW X 4 cs σ 32 [none, some (.int r1), some (.int r2), none] []) h ?_ ?_
    · intro _u h
      refine s_iload_n hX dX8_startsInstruction_32 rfl ?_
      refine s_bipush 105 hX dX8_startsInstruction_33 (by decide) ?_
      refine s_ic_ne (tgt := 48) hX dX8_startsInstruction_35 (by decide) (fun c10 => ?_) (fun c10 => ?_)
      · replace h := (if_neg c10).symm.trans h
        refine s_iconst 0 hX dX8_startsInstruction_48 (by decide) ?_
        refine s_mask [false, true, false, false] ?_
        exact hj4 _ h
      · replace h := (if_pos c10).symm.trans h
        refine s_iload_n hX dX8_startsInstruction_38 rfl ?_
        refine s_bipush 102 hX dX8_startsInstruction_39 (by decide) ?_
        refine s_ic_ne (tgt := 48) hX dX8_startsInstruction_41 (by decide) (fun c9 => ?_) (fun c9 => ?_)
        · replace h := (if_neg c9).symm.trans h
          refine s_iconst 0 hX dX8_startsInstruction_48 (by decide) ?_
          refine s_mask [false, true, false, false] ?_
          exact hj4 _ h
        · replace h := (if_pos c9).symm.trans h
          refine s_iconst 1 hX dX8_startsInstruction_44 (by decide) ?_
          refine s_goto (tgt := 49) hX dX8_startsInstruction_45 (by decide) ?_
          refine s_mask [false, true, false, false] ?_
          exact hj4 _ h
    · intro j8 hj8 h
      refine s_ic_ne (tgt := 32) hX dX8_startsInstruction_23 (by decide) (fun c12 => ?_) (fun c12 => ?_)
      · replace h := (if_neg c12).symm.trans h
        refine s_mask [false, true, true, false] ?_
        exact hj8 _ h
      · replace h := (if_pos c12).symm.trans h
        refine s_iload_n hX dX8_startsInstruction_26 rfl ?_
        refine s_bipush 111 hX dX8_startsInstruction_27 (by decide) ?_
        refine s_ic_eq (tgt := 44) hX dX8_startsInstruction_29 (by decide) (fun c11 => ?_) (fun c11 => ?_)
        · replace h := (if_pos c11).symm.trans h
          refine s_iconst 1 hX dX8_startsInstruction_44 (by decide) ?_
          refine s_goto (tgt := 49) hX dX8_startsInstruction_45 (by decide) ?_
          refine s_mask [false, true, false, false] ?_
          exact hj4 _ h
        · replace h := (if_neg c11).symm.trans h
          refine s_mask [false, true, true, false] ?_
          exact hj8 _ h
def gX8_parseConstant_12 (l1 : Int32) (l2 : Int32) (rec : Mm × Int32 × Int32 → Option (Mm × Int32 × Int32)) (σ : Mm) (x3 : Int32) (x4 : Int32) : Option (Mm × Int32 × Int32) :=
  if 3 ≤ x4 then
  some (σ, x3, x4)
else
  (fX8_signAt σ (σ 113 3)).bind fun r1 =>
  (fX8_isDigit σ r1).bind fun r2 =>
  if r2 = 0 then
  some (σ, x3, x4)
else
  (fX8_signAt σ (σ 113 3)).bind fun r3 =>
  bd ((x3 * 10) + (r3 - 48)) fun v4 =>
  bd (upm σ 113 (upd (σ 113) 3 ((σ 113 3) + 1))) fun σ5 =>
  bd (x4 + 1) fun v6 =>
  rec (σ5, v4, v6)
def qX8_parseConstant_12 (l1 : Int32) (l2 : Int32) : Nat → Mm × Int32 × Int32 → Option (Mm × Int32 × Int32) := lp (fun rec s => gX8_parseConstant_12 l1 l2 rec s.1 s.2.1 s.2.2)
def fX8_parseConstant (σ : Mm) (l1 : Int32) : Option (Int32 × Mm) :=
  bn2 (fX8_take σ 45) fun r1 σ2 =>
  bn3 (qX8_parseConstant_12 l1 r1 FU (σ2, 0, 0)) fun σ3 v4 v5 =>
  jn (fun (v6 : Int32) => (fX0_add σ3 115 0 l1 v6 (-1)).bind fun σ8 =>
  if v5 ≤ 0 then
  some (0, σ8)
else
  some (1, σ8)) fun j7 =>
  if r1 = 0 then
  j7 v4
else
  j7 (-v4)
set_option maxHeartbeats 4000000 in
theorem pX8_parseConstant_12 {X : sT} {cs : Nat × Nat} (hX : sX X cX8_parseConstant RX8 5 1 24) (hcs : cs.1 ≤ (sR X).cells ∧ cs.2 ≤ (sR X).slots) (l1 : Int32) (l2 : Int32)  : ∀ (n : Nat) (s : Mm × Int32 × Int32) (r : Mm × Int32 × Int32), qX8_parseConstant_12 l1 l2 n s = some r → sW X 5 cs r.1 65 [some (.ref (sad X 113)), some (.int l1), some (.int l2), some (.int r.2.1), some (.int r.2.2)] [] → sW X 5 cs s.1 12 [some (.ref (sad X 113)), some (.int l1), some (.int l2), some (.int s.2.1), some (.int s.2.2)] [] := by
  refine lp_ind (P := fun (s : Mm × Int32 × Int32) (r : Mm × Int32 × Int32) => sW X 5 cs r.1 65 [some (.ref (sad X 113)), some (.int l1), some (.int l2), some (.int r.2.1), some (.int r.2.2)] [] → sW X 5 cs s.1 12 [some (.ref (sad X 113)), some (.int l1), some (.int l2), some (.int s.2.1), some (.int s.2.2)] []) ?_
  intro rec hrec s r h0 hk
  obtain ⟨σ, x3, x4⟩ := s
  have h : gX8_parseConstant_12 l1 l2 rec σ x3 x4 = some r := h0
  unfold gX8_parseConstant_12 at h
  show sW X 5 cs σ 12 [some (.ref (sad X 113)), some (.int l1), some (.int l2), some (.int x3), some (.int x4)] []
  refine s_iload hX dX8_parseConstant_12 rfl ?_
  refine s_iconst 3 hX dX8_parseConstant_14 (by decide) ?_
  refine s_ic_ge (tgt := 65) hX dX8_parseConstant_15 (by decide) (fun c8 => ?_) (fun c8 => ?_)
  · replace h := (if_pos c8).symm.trans h
    obtain rfl := rt1 h
    refine s_mask [true, true, true, true, true] ?_
    exact hk
  · replace h := (if_neg c8).symm.trans h
    refine s_aload_n hX dX8_parseConstant_18 rfl ?_
    refine s_aload_n hX dX8_parseConstant_19 rfl ?_
    refine s_getI hX fo_RX8_26_7 SH_113 rfl dX8_parseConstant_20 ?_
    obtain ⟨r1, hc, h⟩ := bn_some h
    refine s_callVI _ hX (cX8_signAt_ok (sl X)  hc) SH_113 mv_RX8_45_7 (fun _ => rfl) (by decide) (Nat.le_of_ble_eq_true rfl) hcs dX8_parseConstant_23 rfl ?_
    obtain ⟨r2, hc, h⟩ := bn_some h
    refine s_callSI _ hX (cX8_isDigit_ok (sl X)  hc) ms_RX8_57 (fun _ => rfl) (by decide) (Nat.le_of_ble_eq_true rfl) hcs dX8_parseConstant_26 rfl ?_
    refine s_if_eq (tgt := 65) hX dX8_parseConstant_29 (by decide) (fun c7 => ?_) (fun c7 => ?_)
    · replace h := (if_pos c7).symm.trans h
      obtain rfl := rt1 h
      refine s_mask [true, true, true, true, true] ?_
      exact hk
    · replace h := (if_neg c7).symm.trans h
      refine s_iload_n hX dX8_parseConstant_32 rfl ?_
      refine s_bipush 10 hX dX8_parseConstant_33 (by decide) ?_
      refine s_imul hX dX8_parseConstant_35 ?_
      refine s_aload_n hX dX8_parseConstant_36 rfl ?_
      refine s_aload_n hX dX8_parseConstant_37 rfl ?_
      refine s_getI hX fo_RX8_26_7 SH_113 rfl dX8_parseConstant_38 ?_
      obtain ⟨r3, hc, h⟩ := bn_some h
      refine s_callVI _ hX (cX8_signAt_ok (sl X)  hc) SH_113 mv_RX8_45_7 (fun _ => rfl) (by decide) (Nat.le_of_ble_eq_true rfl) hcs dX8_parseConstant_41 rfl ?_
      refine s_bipush 48 hX dX8_parseConstant_44 (by decide) ?_
      refine s_isub hX dX8_parseConstant_46 ?_
      refine s_iadd hX dX8_parseConstant_47 ?_
      obtain ⟨v4, ev4, h⟩ := bd_some h
      refine s_topi v4 ev4 ?_
      refine s_istore_n hX dX8_parseConstant_48 (by decide) ?_
      refine s_aload_n hX dX8_parseConstant_49 rfl ?_
      refine s_dup hX dX8_parseConstant_50 rfl ?_
      refine s_getI hX fo_RX8_26_7 SH_113 rfl dX8_parseConstant_51 ?_
      refine s_iconst 1 hX dX8_parseConstant_54 (by decide) ?_
      refine s_iadd hX dX8_parseConstant_55 ?_
      obtain ⟨σ5, eσ5, h⟩ := bd_some h
      refine s_putI hX fo_RX8_26_7 SH_113 rfl dX8_parseConstant_56 ?_
      refine s_mem σ5 eσ5 ?_
      obtain ⟨v6, ev6, h⟩ := bd_some h
      refine s_iinc v6 hX dX8_parseConstant_59 rfl (by rw [ev6]; rfl) (by decide) ?_
      refine s_goto (tgt := 12) hX dX8_parseConstant_62 (by decide) ?_
      refine s_mask [true, true, true, true, true] ?_
      exact hrec _ _ h hk
set_option maxHeartbeats 4000000 in
theorem cX8_parseConstant_ok (l : Launch) {σ : Mm} {l1 : Int32} {r : Int32} {σ' : Mm}  (h : fX8_parseConstant σ l1 = some (r, σ')) : cI l yX8_parseConstant cX8_parseConstant 5 .boolean 1 24 (fun ad => [.ref (ad 113), .int l1]) σ r σ' := by
  refine c_enterI (fun ad => [some (.ref (ad 113)), some (.int l1), none, none, none]) (by decide) (fun ad => ⟨by simp [Value.category], Nat.le_of_ble_eq_true rfl⟩) (fun ad => ⟨3, rfl⟩) ?_
  intro X _ hX hret
  have hcs : ((0 : Nat), (0 : Nat)).1 ≤ (sR X).cells ∧ ((0 : Nat), (0 : Nat)).2 ≤ (sR X).slots := ⟨Nat.zero_le _, Nat.zero_le _⟩
  generalize hcs0 : ((0 : Nat), (0 : Nat)) = cs at hcs hret ⊢
  unfold fX8_parseConstant at h
  show sW X 5 cs σ 0 [some (.ref (sad X 113)), some (.int l1), none, none, none] []
  refine s_aload_n hX dX8_parseConstant_0 rfl ?_
  refine s_bipush 45 hX dX8_parseConstant_1 (by decide) ?_
  obtain ⟨r1, σ2, hc, h⟩ := bn2_some h
  refine s_callVI _ hX (cX8_take_ok (sl X)  hc) SH_113 mv_RX8_53_7 (fun _ => rfl) (by decide) (Nat.le_of_ble_eq_true rfl) hcs dX8_parseConstant_3 rfl ?_
  refine s_istore_n hX dX8_parseConstant_6 (by decide) ?_
  refine s_iconst 0 hX dX8_parseConstant_7 (by decide) ?_
  refine s_istore_n hX dX8_parseConstant_8 (by decide) ?_
  refine s_iconst 0 hX dX8_parseConstant_9 (by decide) ?_
  refine s_istore hX dX8_parseConstant_10 (by decide) ?_
  obtain ⟨σ3, v4, v5, hc, h⟩ := bn3_some h
  refine s_mask [true, true, true, true, true] ?_
  refine pX8_parseConstant_12 hX hcs _ _ _ _ _ hc ?_
  refine s_aload_n hX dX8_parseConstant_65 rfl ?_
  refine s_getR (r := 115) hX fo_RX8_18_7 SH_113 rfl dX8_parseConstant_66 ?_
  refine s_iconst 0 hX dX8_parseConstant_69 (by decide) ?_
  refine s_iload_n hX dX8_parseConstant_70 rfl ?_
  refine s_iload_n hX dX8_parseConstant_71 rfl ?_
  refine jn_use (fun j => ∀ (v6 : Int32), j v6 = some (r, σ') → sW X 5 cs σ3 81 [none, none, none, none, some (.int v5)] [.int v6, .int l1, .int 0, .ref (sad X 115)]) h ?_ ?_
  · intro v6 h
    refine s_iconst (-1) hX dX8_parseConstant_81 (by decide) ?_
    obtain ⟨σ8, hc, h⟩ := bn_some h
    refine s_callVV _ hX (cX0_add_ok (sl X) isB_115 hc) (isB_0 isB_115) mv_RX8_67_0 (fun _ => rfl) (by decide) (Nat.le_of_ble_eq_true rfl) hcs dX8_parseConstant_82 rfl ?_
    refine s_iload hX dX8_parseConstant_85 rfl ?_
    refine s_if_le (tgt := 94) hX dX8_parseConstant_87 (by decide) (fun c9 => ?_) (fun c9 => ?_)
    · replace h := (if_pos c9).symm.trans h
      refine s_iconst 0 hX dX8_parseConstant_94 (by decide) ?_
      obtain ⟨rfl, rfl⟩ := rt2 h
      exact hret _ _ nz0 dX8_parseConstant_95
    · replace h := (if_neg c9).symm.trans h
      refine s_iconst 1 hX dX8_parseConstant_90 (by decide) ?_
      refine s_goto (tgt := 95) hX dX8_parseConstant_91 (by decide) ?_
      obtain ⟨rfl, rfl⟩ := rt2 h
      exact hret _ _ nz1 dX8_parseConstant_95
  · intro j7 hj7 h
    refine s_if_eq (tgt := 80) hX dX8_parseConstant_72 (by decide) (fun c10 => ?_) (fun c10 => ?_)
    · replace h := (if_pos c10).symm.trans h
      refine s_iload_n hX dX8_parseConstant_80 rfl ?_
      refine s_mask [false, false, false, false, true] ?_
      exact hj7 _ h
    · replace h := (if_neg c10).symm.trans h
      refine s_iload_n hX dX8_parseConstant_75 rfl ?_
      refine s_ineg hX dX8_parseConstant_76 ?_
      refine s_goto (tgt := 81) hX dX8_parseConstant_77 (by decide) ?_
      refine s_mask [false, false, false, false, true] ?_
      exact hj7 _ h
def fX8_takeOperator (σ : Mm) : Option (Int32 × Mm) :=
  bn2 (fX8_take σ 43) fun r1 σ2 =>
  if r1 = 0 then
  bn2 (fX8_take σ2 45) fun r3 σ4 =>
  if r3 = 0 then
  bn2 (fX8_take σ4 42) fun r5 σ6 =>
  if r5 = 0 then
  some (1, σ6)
else
  some (4, σ6)
else
  some (3, σ4)
else
  some (2, σ2)
set_option maxHeartbeats 4000000 in
theorem cX8_takeOperator_ok (l : Launch) {σ : Mm} {r : Int32} {σ' : Mm}  (h : fX8_takeOperator σ = some (r, σ')) : cI l yX8_takeOperator cX8_takeOperator 1 .int 1 21 (fun ad => [.ref (ad 113)]) σ r σ' := by
  refine c_enterI (fun ad => [some (.ref (ad 113))]) (by decide) (fun ad => ⟨by simp [Value.category], Nat.le_of_ble_eq_true rfl⟩) (fun ad => ⟨0, rfl⟩) ?_
  intro X _ hX hret
  have hcs : ((0 : Nat), (0 : Nat)).1 ≤ (sR X).cells ∧ ((0 : Nat), (0 : Nat)).2 ≤ (sR X).slots := ⟨Nat.zero_le _, Nat.zero_le _⟩
  generalize hcs0 : ((0 : Nat), (0 : Nat)) = cs at hcs hret ⊢
  unfold fX8_takeOperator at h
  show sW X 1 cs σ 0 [some (.ref (sad X 113))] []
  refine s_aload_n hX dX8_takeOperator_0 rfl ?_
  refine s_bipush 43 hX dX8_takeOperator_1 (by decide) ?_
  obtain ⟨r1, σ2, hc, h⟩ := bn2_some h
  refine s_callVI _ hX (cX8_take_ok (sl X)  hc) SH_113 mv_RX8_53_7 (fun _ => rfl) (by decide) (Nat.le_of_ble_eq_true rfl) hcs dX8_takeOperator_3 rfl ?_
  refine s_if_eq (tgt := 11) hX dX8_takeOperator_6 (by decide) (fun c9 => ?_) (fun c9 => ?_)
  · replace h := (if_pos c9).symm.trans h
    refine s_aload_n hX dX8_takeOperator_11 rfl ?_
    refine s_bipush 45 hX dX8_takeOperator_12 (by decide) ?_
    obtain ⟨r3, σ4, hc, h⟩ := bn2_some h
    refine s_callVI _ hX (cX8_take_ok (sl X)  hc) SH_113 mv_RX8_53_7 (fun _ => rfl) (by decide) (Nat.le_of_ble_eq_true rfl) hcs dX8_takeOperator_14 rfl ?_
    refine s_if_eq (tgt := 22) hX dX8_takeOperator_17 (by decide) (fun c8 => ?_) (fun c8 => ?_)
    · replace h := (if_pos c8).symm.trans h
      refine s_aload_n hX dX8_takeOperator_22 rfl ?_
      refine s_bipush 42 hX dX8_takeOperator_23 (by decide) ?_
      obtain ⟨r5, σ6, hc, h⟩ := bn2_some h
      refine s_callVI _ hX (cX8_take_ok (sl X)  hc) SH_113 mv_RX8_53_7 (fun _ => rfl) (by decide) (Nat.le_of_ble_eq_true rfl) hcs dX8_takeOperator_25 rfl ?_
      refine s_if_eq (tgt := 35) hX dX8_takeOperator_28 (by decide) (fun c7 => ?_) (fun c7 => ?_)
      · replace h := (if_pos c7).symm.trans h
        refine s_iconst 1 hX dX8_takeOperator_35 (by decide) ?_
        obtain ⟨rfl, rfl⟩ := rt2 h
        exact hret _ _ (nzi _) dX8_takeOperator_36
      · replace h := (if_neg c7).symm.trans h
        refine s_iconst 4 hX dX8_takeOperator_31 (by decide) ?_
        refine s_goto (tgt := 36) hX dX8_takeOperator_32 (by decide) ?_
        obtain ⟨rfl, rfl⟩ := rt2 h
        exact hret _ _ (nzi _) dX8_takeOperator_36
    · replace h := (if_neg c8).symm.trans h
      refine s_iconst 3 hX dX8_takeOperator_20 (by decide) ?_
      obtain ⟨rfl, rfl⟩ := rt2 h
      exact hret _ _ (nzi _) dX8_takeOperator_21
  · replace h := (if_neg c9).symm.trans h
    refine s_iconst 2 hX dX8_takeOperator_9 (by decide) ?_
    obtain ⟨rfl, rfl⟩ := rt2 h
    exact hret _ _ (nzi _) dX8_takeOperator_10
def fX8_parseVariables (σ : Mm) (l1 : Int32) : Option (Int32 × Mm) :=
  bn2 (fX8_takeVariable σ) fun r1 σ2 =>
  if r1 = (-1) then
  some (0, σ2)
else
  bn2 (fX8_takeOperator σ2) fun r3 σ4 =>
  jn (fun (σ5 : Mm) (v6 : Int32) => (fX0_add σ5 115 r3 l1 r1 v6).bind fun σ8 =>
  if r3 = 1 then
  some (1, σ8)
else
  if v6 = (-1) then
  some (0, σ8)
else
  some (1, σ8)) fun j7 =>
  if r3 = 1 then
  j7 σ4 (-1)
else
  bn2 (fX8_takeVariable σ4) fun r11 σ12 =>
  j7 σ12 r11
set_option maxHeartbeats 4000000 in
theorem cX8_parseVariables_ok (l : Launch) {σ : Mm} {l1 : Int32} {r : Int32} {σ' : Mm}  (h : fX8_parseVariables σ l1 = some (r, σ')) : cI l yX8_parseVariables cX8_parseVariables 5 .boolean 2 42 (fun ad => [.ref (ad 113), .int l1]) σ r σ' := by
  refine c_enterI (fun ad => [some (.ref (ad 113)), some (.int l1), none, none, none]) (by decide) (fun ad => ⟨by simp [Value.category], Nat.le_of_ble_eq_true rfl⟩) (fun ad => ⟨3, rfl⟩) ?_
  intro X _ hX hret
  have hcs : ((0 : Nat), (0 : Nat)).1 ≤ (sR X).cells ∧ ((0 : Nat), (0 : Nat)).2 ≤ (sR X).slots := ⟨Nat.zero_le _, Nat.zero_le _⟩
  generalize hcs0 : ((0 : Nat), (0 : Nat)) = cs at hcs hret ⊢
  unfold fX8_parseVariables at h
  show sW X 5 cs σ 0 [some (.ref (sad X 113)), some (.int l1), none, none, none] []
  refine s_aload_n hX dX8_parseVariables_0 rfl ?_
  obtain ⟨r1, σ2, hc, h⟩ := bn2_some h
  refine s_callVI _ hX (cX8_takeVariable_ok (sl X)  hc) SH_113 mv_RX8_49_7 (fun _ => rfl) (by decide) (Nat.le_of_ble_eq_true rfl) hcs dX8_parseVariables_1 rfl ?_
  refine s_istore_n hX dX8_parseVariables_4 (by decide) ?_
  refine s_iload_n hX dX8_parseVariables_5 rfl ?_
  refine s_iconst (-1) hX dX8_parseVariables_6 (by decide) ?_
  refine s_ic_ne (tgt := 12) hX dX8_parseVariables_7 (by decide) (fun c14 => ?_) (fun c14 => ?_)
  · replace h := (if_neg c14).symm.trans h
    refine s_aload_n hX dX8_parseVariables_12 rfl ?_
    obtain ⟨r3, σ4, hc, h⟩ := bn2_some h
    refine s_callVI _ hX (cX8_takeOperator_ok (sl X)  hc) SH_113 mv_RX8_71_7 (fun _ => rfl) (by decide) (Nat.le_of_ble_eq_true rfl) hcs dX8_parseVariables_13 rfl ?_
    refine s_istore_n hX dX8_parseVariables_16 (by decide) ?_
    refine s_iload_n hX dX8_parseVariables_17 rfl ?_
    refine s_iconst 1 hX dX8_parseVariables_18 (by decide) ?_
    refine jn_use (fun j => ∀ (σ5 : Mm) (v6 : Int32), j σ5 v6 = some (r, σ') → sW X 5 cs σ5 30 [some (.ref (sad X 113)), some (.int l1), some (.int r1), some (.int r3), none] [.int v6]) h ?_ ?_
    · intro σ5 v6 h
      refine s_istore hX dX8_parseVariables_30 (by decide) ?_
      refine s_aload_n hX dX8_parseVariables_32 rfl ?_
      refine s_getR (r := 115) hX fo_RX8_18_7 SH_113 rfl dX8_parseVariables_33 ?_
      refine s_iload_n hX dX8_parseVariables_36 rfl ?_
      refine s_iload_n hX dX8_parseVariables_37 rfl ?_
      refine s_iload_n hX dX8_parseVariables_38 rfl ?_
      refine s_iload hX dX8_parseVariables_39 rfl ?_
      obtain ⟨σ8, hc, h⟩ := bn_some h
      refine s_callVV _ hX (cX0_add_ok (sl X) isB_115 hc) (isB_0 isB_115) mv_RX8_67_0 (fun _ => rfl) (by decide) (Nat.le_of_ble_eq_true rfl) hcs dX8_parseVariables_41 rfl ?_
      refine s_iload_n hX dX8_parseVariables_44 rfl ?_
      refine s_iconst 1 hX dX8_parseVariables_45 (by decide) ?_
      refine s_ic_eq (tgt := 55) hX dX8_parseVariables_46 (by decide) (fun c10 => ?_) (fun c10 => ?_)
      · replace h := (if_pos c10).symm.trans h
        refine s_iconst 1 hX dX8_parseVariables_55 (by decide) ?_
        refine s_goto (tgt := 60) hX dX8_parseVariables_56 (by decide) ?_
        obtain ⟨rfl, rfl⟩ := rt2 h
        exact hret _ _ nz1 dX8_parseVariables_60
      · replace h := (if_neg c10).symm.trans h
        refine s_iload hX dX8_parseVariables_49 rfl ?_
        refine s_iconst (-1) hX dX8_parseVariables_51 (by decide) ?_
        refine s_ic_eq (tgt := 59) hX dX8_parseVariables_52 (by decide) (fun c9 => ?_) (fun c9 => ?_)
        · replace h := (if_pos c9).symm.trans h
          refine s_iconst 0 hX dX8_parseVariables_59 (by decide) ?_
          obtain ⟨rfl, rfl⟩ := rt2 h
          exact hret _ _ nz0 dX8_parseVariables_60
        · replace h := (if_neg c9).symm.trans h
          refine s_iconst 1 hX dX8_parseVariables_55 (by decide) ?_
          refine s_goto (tgt := 60) hX dX8_parseVariables_56 (by decide) ?_
          obtain ⟨rfl, rfl⟩ := rt2 h
          exact hret _ _ nz1 dX8_parseVariables_60
    · intro j7 hj7 h
      refine s_ic_ne (tgt := 26) hX dX8_parseVariables_19 (by decide) (fun c13 => ?_) (fun c13 => ?_)
      · replace h := (if_neg c13).symm.trans h
        refine s_aload_n hX dX8_parseVariables_26 rfl ?_
        obtain ⟨r11, σ12, hc, h⟩ := bn2_some h
        refine s_callVI _ hX (cX8_takeVariable_ok (sl X)  hc) SH_113 mv_RX8_49_7 (fun _ => rfl) (by decide) (Nat.le_of_ble_eq_true rfl) hcs dX8_parseVariables_27 rfl ?_
        refine s_mask [true, true, true, true, false] ?_
        exact hj7 _ _ h
      · replace h := (if_pos c13).symm.trans h
        refine s_iconst (-1) hX dX8_parseVariables_22 (by decide) ?_
        refine s_goto (tgt := 30) hX dX8_parseVariables_23 (by decide) ?_
        refine s_mask [true, true, true, true, false] ?_
        exact hj7 _ _ h
  · replace h := (if_pos c14).symm.trans h
    refine s_iconst 0 hX dX8_parseVariables_10 (by decide) ?_
    obtain ⟨rfl, rfl⟩ := rt2 h
    exact hret _ _ nz0 dX8_parseVariables_11
def fX8_parseInstruction (σ : Mm) : Option (Int32 × Mm) :=
  bn2 (fX8_takeVariable σ) fun r1 σ2 =>
  if r1 = (-1) then
  some (0, σ2)
else
  bn2 (fX8_take σ2 61) fun r3 σ4 =>
  if r3 = 0 then
  some (0, σ4)
else
  (fX8_signAt σ4 (σ4 113 3)).bind fun r5 =>
  jn (fun (σ6 : Mm) (v7 : Int32) => if v7 = 0 then
  some (0, σ6)
else
  bn2 (fX8_take σ6 59) fun r9 σ10 =>
  if r9 = 0 then
  some (0, σ10)
else
  some (1, σ10)) fun j8 =>
  if r5 = 45 then
  bn2 (fX8_parseConstant σ4 r1) fun r13 σ14 =>
  j8 σ14 r13
else
  (fX8_signAt σ4 (σ4 113 3)).bind fun r15 =>
  (fX8_isDigit σ4 r15).bind fun r16 =>
  if r16 = 0 then
  bn2 (fX8_parseVariables σ4 r1) fun r17 σ18 =>
  j8 σ18 r17
else
  bn2 (fX8_parseConstant σ4 r1) fun r19 σ20 =>
  j8 σ20 r19
set_option maxHeartbeats 4000000 in
theorem cX8_parseInstruction_ok (l : Launch) {σ : Mm} {r : Int32} {σ' : Mm}  (h : fX8_parseInstruction σ = some (r, σ')) : cI l yX8_parseInstruction cX8_parseInstruction 3 .boolean 3 66 (fun ad => [.ref (ad 113)]) σ r σ' := by
  refine c_enterI (fun ad => [some (.ref (ad 113)), none, none]) (by decide) (fun ad => ⟨by simp [Value.category], Nat.le_of_ble_eq_true rfl⟩) (fun ad => ⟨2, rfl⟩) ?_
  intro X _ hX hret
  have hcs : ((0 : Nat), (0 : Nat)).1 ≤ (sR X).cells ∧ ((0 : Nat), (0 : Nat)).2 ≤ (sR X).slots := ⟨Nat.zero_le _, Nat.zero_le _⟩
  generalize hcs0 : ((0 : Nat), (0 : Nat)) = cs at hcs hret ⊢
  unfold fX8_parseInstruction at h
  show sW X 3 cs σ 0 [some (.ref (sad X 113)), none, none] []
  refine s_aload_n hX dX8_parseInstruction_0 rfl ?_
  obtain ⟨r1, σ2, hc, h⟩ := bn2_some h
  refine s_callVI _ hX (cX8_takeVariable_ok (sl X)  hc) SH_113 mv_RX8_49_7 (fun _ => rfl) (by decide) (Nat.le_of_ble_eq_true rfl) hcs dX8_parseInstruction_1 rfl ?_
  refine s_istore_n hX dX8_parseInstruction_4 (by decide) ?_
  refine s_iload_n hX dX8_parseInstruction_5 rfl ?_
  refine s_iconst (-1) hX dX8_parseInstruction_6 (by decide) ?_
  refine s_ic_eq (tgt := 19) hX dX8_parseInstruction_7 (by decide) (fun c24 => ?_) (fun c24 => ?_)
  · replace h := (if_pos c24).symm.trans h
    refine s_iconst 0 hX dX8_parseInstruction_19 (by decide) ?_
    obtain ⟨rfl, rfl⟩ := rt2 h
    exact hret _ _ nz0 dX8_parseInstruction_20
  · replace h := (if_neg c24).symm.trans h
    refine s_aload_n hX dX8_parseInstruction_10 rfl ?_
    refine s_bipush 61 hX dX8_parseInstruction_11 (by decide) ?_
    obtain ⟨r3, σ4, hc, h⟩ := bn2_some h
    refine s_callVI _ hX (cX8_take_ok (sl X)  hc) SH_113 mv_RX8_53_7 (fun _ => rfl) (by decide) (Nat.le_of_ble_eq_true rfl) hcs dX8_parseInstruction_13 rfl ?_
    refine s_if_ne (tgt := 21) hX dX8_parseInstruction_16 (by decide) (fun c23 => ?_) (fun c23 => ?_)
    · replace h := (if_neg c23).symm.trans h
      refine s_aload_n hX dX8_parseInstruction_21 rfl ?_
      refine s_aload_n hX dX8_parseInstruction_22 rfl ?_
      refine s_getI hX fo_RX8_26_7 SH_113 rfl dX8_parseInstruction_23 ?_
      obtain ⟨r5, hc, h⟩ := bn_some h
      refine s_callVI _ hX (cX8_signAt_ok (sl X)  hc) SH_113 mv_RX8_45_7 (fun _ => rfl) (by decide) (Nat.le_of_ble_eq_true rfl) hcs dX8_parseInstruction_26 rfl ?_
      refine s_bipush 45 hX dX8_parseInstruction_29 (by decide) ?_
      refine jn_use (fun j => ∀ (σ6 : Mm) (v7 : Int32), j σ6 v7 = some (r, σ') → sW X 3 cs σ6 61 [some (.ref (sad X 113)), none, none] [.int v7]) h ?_ ?_
      · intro σ6 v7 h
        refine s_istore_n hX dX8_parseInstruction_61 (by decide) ?_
        refine s_iload_n hX dX8_parseInstruction_62 rfl ?_
        refine s_if_eq (tgt := 79) hX dX8_parseInstruction_63 (by decide) (fun c12 => ?_) (fun c12 => ?_)
        · replace h := (if_pos c12).symm.trans h
          refine s_iconst 0 hX dX8_parseInstruction_79 (by decide) ?_
          obtain ⟨rfl, rfl⟩ := rt2 h
          exact hret _ _ nz0 dX8_parseInstruction_80
        · replace h := (if_neg c12).symm.trans h
          refine s_aload_n hX dX8_parseInstruction_66 rfl ?_
          refine s_bipush 59 hX dX8_parseInstruction_67 (by decide) ?_
          obtain ⟨r9, σ10, hc, h⟩ := bn2_some h
          refine s_callVI _ hX (cX8_take_ok (sl X)  hc) SH_113 mv_RX8_53_7 (fun _ => rfl) (by decide) (Nat.le_of_ble_eq_true rfl) hcs dX8_parseInstruction_69 rfl ?_
          refine s_if_eq (tgt := 79) hX dX8_parseInstruction_72 (by decide) (fun c11 => ?_) (fun c11 => ?_)
          · replace h := (if_pos c11).symm.trans h
            refine s_iconst 0 hX dX8_parseInstruction_79 (by decide) ?_
            obtain ⟨rfl, rfl⟩ := rt2 h
            exact hret _ _ nz0 dX8_parseInstruction_80
          · replace h := (if_neg c11).symm.trans h
            refine s_iconst 1 hX dX8_parseInstruction_75 (by decide) ?_
            refine s_goto (tgt := 80) hX dX8_parseInstruction_76 (by decide) ?_
            obtain ⟨rfl, rfl⟩ := rt2 h
            exact hret _ _ nz1 dX8_parseInstruction_80
      · intro j8 hj8 h
        refine s_ic_eq (tgt := 48) hX dX8_parseInstruction_31 (by decide) (fun c22 => ?_) (fun c22 => ?_)
        · replace h := (if_pos c22).symm.trans h
          refine s_aload_n hX dX8_parseInstruction_48 rfl ?_
          refine s_iload_n hX dX8_parseInstruction_49 rfl ?_
          obtain ⟨r13, σ14, hc, h⟩ := bn2_some h
          refine s_callVI _ hX (cX8_parseConstant_ok (sl X)  hc) SH_113 mv_RX8_60_7 (fun _ => rfl) (by decide) (Nat.le_of_ble_eq_true rfl) hcs dX8_parseInstruction_50 rfl ?_
          refine s_goto (tgt := 61) hX dX8_parseInstruction_53 (by decide) ?_
          refine s_mask [true, false, false] ?_
          exact hj8 _ _ h
        · replace h := (if_neg c22).symm.trans h
          refine s_aload_n hX dX8_parseInstruction_34 rfl ?_
          refine s_aload_n hX dX8_parseInstruction_35 rfl ?_
          refine s_getI hX fo_RX8_26_7 SH_113 rfl dX8_parseInstruction_36 ?_
          obtain ⟨r15, hc, h⟩ := bn_some h
          refine s_callVI _ hX (cX8_signAt_ok (sl X)  hc) SH_113 mv_RX8_45_7 (fun _ => rfl) (by decide) (Nat.le_of_ble_eq_true rfl) hcs dX8_parseInstruction_39 rfl ?_
          obtain ⟨r16, hc, h⟩ := bn_some h
          refine s_callSI _ hX (cX8_isDigit_ok (sl X)  hc) ms_RX8_57 (fun _ => rfl) (by decide) (Nat.le_of_ble_eq_true rfl) hcs dX8_parseInstruction_42 rfl ?_
          refine s_if_eq (tgt := 56) hX dX8_parseInstruction_45 (by decide) (fun c21 => ?_) (fun c21 => ?_)
          · replace h := (if_pos c21).symm.trans h
            refine s_aload_n hX dX8_parseInstruction_56 rfl ?_
            refine s_iload_n hX dX8_parseInstruction_57 rfl ?_
            obtain ⟨r17, σ18, hc, h⟩ := bn2_some h
            refine s_callVI _ hX (cX8_parseVariables_ok (sl X)  hc) SH_113 mv_RX8_64_7 (fun _ => rfl) (by decide) (Nat.le_of_ble_eq_true rfl) hcs dX8_parseInstruction_58 rfl ?_
            refine s_mask [true, false, false] ?_
            exact hj8 _ _ h
          · replace h := (if_neg c21).symm.trans h
            refine s_aload_n hX dX8_parseInstruction_48 rfl ?_
            refine s_iload_n hX dX8_parseInstruction_49 rfl ?_
            obtain ⟨r19, σ20, hc, h⟩ := bn2_some h
            refine s_callVI _ hX (cX8_parseConstant_ok (sl X)  hc) SH_113 mv_RX8_60_7 (fun _ => rfl) (by decide) (Nat.le_of_ble_eq_true rfl) hcs dX8_parseInstruction_50 rfl ?_
            refine s_goto (tgt := 61) hX dX8_parseInstruction_53 (by decide) ?_
            refine s_mask [true, false, false] ?_
            exact hj8 _ _ h
    · replace h := (if_pos c23).symm.trans h
      refine s_iconst 0 hX dX8_parseInstruction_19 (by decide) ?_
      obtain ⟨rfl, rfl⟩ := rt2 h
      exact hret _ _ nz0 dX8_parseInstruction_20
def gX8_parse_19  (rec : Mm × Int32 → Option ((Int32 × Mm) ⊕ (Mm))) (σ : Mm) (x2 : Int32) : Option ((Int32 × Mm) ⊕ (Mm)) :=
  if 8 ≤ x2 then
  some (.inr σ)
else
  (fX8_startsInstruction σ).bind fun r1 =>
  if r1 = 0 then
  some (.inr σ)
else
  bn2 (fX8_parseInstruction σ) fun r2 σ3 =>
  if r2 = 0 then
  some (.inl (0, σ3))
else
  bd (x2 + 1) fun v4 =>
  rec (σ3, v4)
def qX8_parse_19  : Nat → Mm × Int32 → Option ((Int32 × Mm) ⊕ (Mm)) := lp (fun rec s => gX8_parse_19  rec s.1 s.2)
def fX8_parse (σ : Mm) (l1 : Int32) : Option (Int32 × Mm) :=
  bd (upm σ 113 (upd (σ 113) 4 l1)) fun σ1 =>
  bd (upm σ1 113 (upd (σ1 113) 3 0)) fun σ2 =>
  (fX0_begin σ2 115).bind fun σ3 =>
  bns (qX8_parse_19  FU (σ3, 0)) (fun u => some u) (fun σ4 => bn2 (fX8_parseEnding σ4) fun r5 σ6 =>
  if r5 = 0 then
  some (0, σ6)
else
  if (σ6 113 3) = (σ6 113 2) then
  some (1, σ6)
else
  some (0, σ6))
set_option maxHeartbeats 4000000 in
theorem pX8_parse_19 {X : sT} {cs : Nat × Nat} (hX : sX X cX8_parse RX8 3 6 172) (hcs : cs.1 ≤ (sR X).cells ∧ cs.2 ≤ (sR X).slots)   : ∀ (n : Nat) (s : Mm × Int32) (r : (Int32 × Mm) ⊕ (Mm)), qX8_parse_19  n s = some r → (∀ u, r = .inr u → sW X 3 cs u 47 [some (.ref (sad X 113)), none, none] []) → (∀ u, r = .inl u → ∀ pc L, narrow .boolean (.int u.1) = .int u.1 → decode cX8_parse pc = .ok (.ireturn, 1) → sW X 3 cs u.2 pc L [.int u.1]) → sW X 3 cs s.1 19 [some (.ref (sad X 113)), none, some (.int s.2)] [] := by
  refine lp_ind (P := fun (s : Mm × Int32) (r : (Int32 × Mm) ⊕ (Mm)) => (∀ u, r = .inr u → sW X 3 cs u 47 [some (.ref (sad X 113)), none, none] []) → (∀ u, r = .inl u → ∀ pc L, narrow .boolean (.int u.1) = .int u.1 → decode cX8_parse pc = .ok (.ireturn, 1) → sW X 3 cs u.2 pc L [.int u.1]) → sW X 3 cs s.1 19 [some (.ref (sad X 113)), none, some (.int s.2)] []) ?_
  intro rec hrec s r h0 hk hr
  obtain ⟨σ, x2⟩ := s
  have h : gX8_parse_19  rec σ x2 = some r := h0
  unfold gX8_parse_19 at h
  show sW X 3 cs σ 19 [some (.ref (sad X 113)), none, some (.int x2)] []
  refine s_iload_n hX dX8_parse_19 rfl ?_
  refine s_bipush 8 hX dX8_parse_20 (by decide) ?_
  refine s_ic_ge (tgt := 47) hX dX8_parse_22 (by decide) (fun c7 => ?_) (fun c7 => ?_)
  · replace h := (if_pos c7).symm.trans h
    obtain rfl := rt1 h
    refine s_mask [true, false, false] ?_
    exact hk _ rfl
  · replace h := (if_neg c7).symm.trans h
    refine s_aload_n hX dX8_parse_25 rfl ?_
    obtain ⟨r1, hc, h⟩ := bn_some h
    refine s_callVI _ hX (cX8_startsInstruction_ok (sl X)  hc) SH_113 mv_RX8_32_7 (fun _ => rfl) (by decide) (Nat.le_of_ble_eq_true rfl) hcs dX8_parse_26 rfl ?_
    refine s_if_eq (tgt := 47) hX dX8_parse_29 (by decide) (fun c6 => ?_) (fun c6 => ?_)
    · replace h := (if_pos c6).symm.trans h
      obtain rfl := rt1 h
      refine s_mask [true, false, false] ?_
      exact hk _ rfl
    · replace h := (if_neg c6).symm.trans h
      refine s_aload_n hX dX8_parse_32 rfl ?_
      obtain ⟨r2, σ3, hc, h⟩ := bn2_some h
      refine s_callVI _ hX (cX8_parseInstruction_ok (sl X)  hc) SH_113 mv_RX8_36_7 (fun _ => rfl) (by decide) (Nat.le_of_ble_eq_true rfl) hcs dX8_parse_33 rfl ?_
      refine s_if_ne (tgt := 41) hX dX8_parse_36 (by decide) (fun c5 => ?_) (fun c5 => ?_)
      · replace h := (if_neg c5).symm.trans h
        obtain ⟨v4, ev4, h⟩ := bd_some h
        refine s_iinc v4 hX dX8_parse_41 rfl (by rw [ev4]; rfl) (by decide) ?_
        refine s_goto (tgt := 19) hX dX8_parse_44 (by decide) ?_
        refine s_mask [true, false, true] ?_
        exact hrec _ _ h hk hr
      · replace h := (if_pos c5).symm.trans h
        refine s_iconst 0 hX dX8_parse_39 (by decide) ?_
        obtain rfl := rt1 h
        exact hr _ rfl _ _ nz0 dX8_parse_40
set_option maxHeartbeats 4000000 in
theorem cX8_parse_ok (l : Launch) {σ : Mm} {l1 : Int32} {r : Int32} {σ' : Mm}  (h : fX8_parse σ l1 = some (r, σ')) : cI l yX8_parse cX8_parse 3 .boolean 6 172 (fun ad => [.ref (ad 113), .int l1]) σ r σ' := by
  refine c_enterI (fun ad => [some (.ref (ad 113)), some (.int l1), none]) (by decide) (fun ad => ⟨by simp [Value.category], Nat.le_of_ble_eq_true rfl⟩) (fun ad => ⟨1, rfl⟩) ?_
  intro X _ hX hret
  have hcs : ((0 : Nat), (0 : Nat)).1 ≤ (sR X).cells ∧ ((0 : Nat), (0 : Nat)).2 ≤ (sR X).slots := ⟨Nat.zero_le _, Nat.zero_le _⟩
  generalize hcs0 : ((0 : Nat), (0 : Nat)) = cs at hcs hret ⊢
  unfold fX8_parse at h
  show sW X 3 cs σ 0 [some (.ref (sad X 113)), some (.int l1), none] []
  refine s_aload_n hX dX8_parse_0 rfl ?_
  refine s_iload_n hX dX8_parse_1 rfl ?_
  obtain ⟨σ1, eσ1, h⟩ := bd_some h
  refine s_putI hX fo_RX8_22_7 SH_113 rfl dX8_parse_2 ?_
  refine s_mem σ1 eσ1 ?_
  refine s_aload_n hX dX8_parse_5 rfl ?_
  refine s_iconst 0 hX dX8_parse_6 (by decide) ?_
  obtain ⟨σ2, eσ2, h⟩ := bd_some h
  refine s_putI hX fo_RX8_26_7 SH_113 rfl dX8_parse_7 ?_
  refine s_mem σ2 eσ2 ?_
  refine s_aload_n hX dX8_parse_10 rfl ?_
  refine s_getR (r := 115) hX fo_RX8_18_7 SH_113 rfl dX8_parse_11 ?_
  obtain ⟨σ3, hc, h⟩ := bn_some h
  refine s_callVV _ hX (cX0_begin_ok (sl X) isB_115 hc) (isB_0 isB_115) mv_RX8_29_0 (fun _ => rfl) (by decide) (Nat.le_of_ble_eq_true rfl) hcs dX8_parse_14 rfl ?_
  refine s_iconst 0 hX dX8_parse_17 (by decide) ?_
  refine s_istore_n hX dX8_parse_18 (by decide) ?_
  refine s_mask [true, false, true] ?_
  rcases bns_some h with ⟨u, hc, h⟩ | ⟨u, hc, h⟩
  · cases h
    exact pX8_parse_19 hX hcs  _ _ _ hc (fun _ e => nomatch e) (fun w e pc L nn d => by cases e; exact hret pc L nn d)
  · obtain ⟨σ4, e0⟩ : ∃ z, z = u := ⟨u, rfl⟩
    subst e0
    refine pX8_parse_19 hX hcs  _ _ _ hc (fun w e => ?_) (fun w e => nomatch e)
    cases e
    refine s_aload_n hX dX8_parse_47 rfl ?_
    obtain ⟨r5, σ6, hc, h⟩ := bn2_some h
    refine s_callVI _ hX (cX8_parseEnding_ok (sl X)  hc) SH_113 mv_RX8_39_7 (fun _ => rfl) (by decide) (Nat.le_of_ble_eq_true rfl) hcs dX8_parse_48 rfl ?_
    refine s_if_eq (tgt := 69) hX dX8_parse_51 (by decide) (fun c8 => ?_) (fun c8 => ?_)
    · replace h := (if_pos c8).symm.trans h
      refine s_iconst 0 hX dX8_parse_69 (by decide) ?_
      obtain ⟨rfl, rfl⟩ := rt2 h
      exact hret _ _ nz0 dX8_parse_70
    · replace h := (if_neg c8).symm.trans h
      refine s_aload_n hX dX8_parse_54 rfl ?_
      refine s_getI hX fo_RX8_26_7 SH_113 rfl dX8_parse_55 ?_
      refine s_aload_n hX dX8_parse_58 rfl ?_
      refine s_getI hX fo_RX8_42_7 SH_113 rfl dX8_parse_59 ?_
      refine s_ic_ne (tgt := 69) hX dX8_parse_62 (by decide) (fun c7 => ?_) (fun c7 => ?_)
      · replace h := (if_neg c7).symm.trans h
        refine s_iconst 0 hX dX8_parse_69 (by decide) ?_
        obtain ⟨rfl, rfl⟩ := rt2 h
        exact hret _ _ nz0 dX8_parse_70
      · replace h := (if_pos c7).symm.trans h
        refine s_iconst 1 hX dX8_parse_65 (by decide) ?_
        refine s_goto (tgt := 70) hX dX8_parse_66 (by decide) ?_
        obtain ⟨rfl, rfl⟩ := rt2 h
        exact hret _ _ nz1 dX8_parse_70
def fX9_read (σ : Mm) (l1 : Int32) : Option Rx :=
  bnT (fX9_requireBlock σ l1) fun r1 σ2 =>
  bn2 (fX8_parse σ2 (σ2 1 2)) fun r3 σ4 =>
  bd (upm σ4 113 (upd (σ4 113) 2 0)) fun σ5 =>
  if r3 = 0 then
  some (0, (-100) - (σ5 113 3), σ5)
else
  gd l1 8 <|
  bd (4 + 5 * l1.toNatClampNeg) fun k7 =>
  (fX0_copyCode σ5 k7 115).bind fun σ8 =>
  (fX9_programChanged σ8).bind fun σ9 =>
  some (0, σ9 115 4, σ9)
set_option maxHeartbeats 4000000 in
theorem cX9_read_ok (l : Launch) {σ : Mm} {l1 : Int32} {r : Int32} {σ' : Mm}  (h : fX9_read σ l1 = some (0, r, σ')) : cI l yX9_read cX9_read 3 .int 9 194 (fun ad => [.ref (ad 0), .int l1]) σ r σ' := by
  refine c_enterI (fun ad => [some (.ref (ad 0)), some (.int l1), none]) (by decide) (fun ad => ⟨by simp [Value.category], Nat.le_of_ble_eq_true rfl⟩) (fun ad => ⟨1, rfl⟩) ?_
  intro X _ hX hret
  have hcs : ((0 : Nat), (0 : Nat)).1 ≤ (sR X).cells ∧ ((0 : Nat), (0 : Nat)).2 ≤ (sR X).slots := ⟨Nat.zero_le _, Nat.zero_le _⟩
  generalize hcs0 : ((0 : Nat), (0 : Nat)) = cs at hcs hret ⊢
  unfold fX9_read at h
  show sW X 3 cs σ 0 [some (.ref (sad X 0)), some (.int l1), none] []
  refine s_aload_n hX dX9_read_0 rfl ?_
  refine s_iload_n hX dX9_read_1 rfl ?_
  obtain ⟨r1, σ2, hc, h⟩ := bnT_0 h
  refine s_callVV _ hX (cX9_requireBlock_ok (sl X)  hc) SH_0 mv_RX9_94_8 (fun _ => rfl) (by decide) (Nat.le_of_ble_eq_true rfl) hcs dX9_read_2 rfl ?_
  refine s_aload_n hX dX9_read_5 rfl ?_
  refine s_getR (r := 113) hX fo_RX9_62_8 SH_0 rfl dX9_read_6 ?_
  refine s_aload_n hX dX9_read_9 rfl ?_
  refine s_getR (r := 1) hX fo_RX9_25_8 SH_0 rfl dX9_read_10 ?_
  refine s_getI hX fo_RX9_83_6 SH_1 rfl dX9_read_13 ?_
  obtain ⟨r3, σ4, hc, h⟩ := bn2_some h
  refine s_callVI _ hX (cX8_parse_ok (sl X)  hc) SH_113 mv_RX9_300_7 (fun _ => rfl) (by decide) (Nat.le_of_ble_eq_true rfl) hcs dX9_read_16 rfl ?_
  refine s_istore_n hX dX9_read_19 (by decide) ?_
  refine s_aload_n hX dX9_read_20 rfl ?_
  refine s_getR (r := 113) hX fo_RX9_62_8 SH_0 rfl dX9_read_21 ?_
  refine s_iconst 0 hX dX9_read_24 (by decide) ?_
  obtain ⟨σ5, eσ5, h⟩ := bd_some h
  refine s_putI hX fo_RX9_291_7 SH_113 rfl dX9_read_25 ?_
  refine s_mem σ5 eσ5 ?_
  refine s_iload_n hX dX9_read_28 rfl ?_
  refine s_if_ne (tgt := 43) hX dX9_read_29 (by decide) (fun c10 => ?_) (fun c10 => ?_)
  · replace h := (if_neg c10).symm.trans h
    refine s_aload_n hX dX9_read_43 rfl ?_
    refine s_getR (r := 1) hX fo_RX9_25_8 SH_0 rfl dX9_read_44 ?_
    refine s_getR (r := 2) hX fo_RX9_103_6 SH_1 rfl dX9_read_47 ?_
    refine s_iload_n hX dX9_read_50 rfl ?_
    obtain ⟨c6, h⟩ := gd_some h
    obtain ⟨k7, ek7, h⟩ := bd_some h
    have Bk7 : isB k7 := Or.inl ⟨_, vp_lt c6, ek7⟩
    refine s_aaldP hX c6 dX9_read_51 ?_
    refine s_topr k7 ek7 ?_
    refine s_aload_n hX dX9_read_52 rfl ?_
    refine s_getR (r := 113) hX fo_RX9_62_8 SH_0 rfl dX9_read_53 ?_
    refine s_getR (r := 115) hX fo_RX9_306_7 SH_113 rfl dX9_read_56 ?_
    obtain ⟨σ8, hc, h⟩ := bn_some h
    refine s_callVV _ hX (cX0_copyCode_ok (sl X) Bk7 isB_115 hc) (isB_0 Bk7) mv_RX9_310_0 (fun _ => rfl) (by decide) (Nat.le_of_ble_eq_true rfl) hcs dX9_read_59 rfl ?_
    refine s_aload_n hX dX9_read_62 rfl ?_
    obtain ⟨σ9, hc, h⟩ := bn_some h
    refine s_callVV _ hX (cX9_programChanged_ok (sl X)  hc) SH_0 mv_RX9_91_8 (fun _ => rfl) (by decide) (Nat.le_of_ble_eq_true rfl) hcs dX9_read_63 rfl ?_
    refine s_aload_n hX dX9_read_66 rfl ?_
    refine s_getR (r := 113) hX fo_RX9_62_8 SH_0 rfl dX9_read_67 ?_
    refine s_getR (r := 115) hX fo_RX9_306_7 SH_113 rfl dX9_read_70 ?_
    refine s_getI hX fo_RX9_107_0 (isB_0 isB_115) rfl dX9_read_73 ?_
    obtain ⟨-, rfl, rfl⟩ := rt3 h
    exact hret _ _ (nzi _) dX9_read_76
  · replace h := (if_pos c10).symm.trans h
    refine s_bipush (-100) hX dX9_read_32 (by decide) ?_
    refine s_aload_n hX dX9_read_34 rfl ?_
    refine s_getR (r := 113) hX fo_RX9_62_8 SH_0 rfl dX9_read_35 ?_
    refine s_getI hX fo_RX9_303_7 SH_113 rfl dX9_read_38 ?_
    refine s_isub hX dX9_read_41 ?_
    obtain ⟨-, rfl, rfl⟩ := rt3 h
    exact hret _ _ (nzi _) dX9_read_42
set_option maxHeartbeats 4000000 in
theorem cX9_read_th (l : Launch) (hl : l.stackTraces = false) {σ : Mm} {l1 : Int32} {e : Nat} {r : Int32} {σ' : Mm}  (he : e ≠ 0) (h : fX9_read σ l1 = some (e, r, σ')) : cTI l yX9_read cX9_read 3 .int 9 194 (fun ad => [.ref (ad 0), .int l1]) σ e σ' := by
  refine c_enterTI (fun ad => [some (.ref (ad 0)), some (.int l1), none]) hl (by decide) rfl (by decide) (by decide) (fun ad => ⟨by simp [Value.category], Nat.le_of_ble_eq_true rfl⟩) (fun ad => ⟨1, rfl⟩) ?_
  intro X hsl hX hct hthr hpr
  have hlX : (sl X).stackTraces = false := by rw [hsl]; exact hl
  have hcs : ((0 : Nat), (0 : Nat)).1 ≤ (sR X).cells ∧ ((0 : Nat), (0 : Nat)).2 ≤ (sR X).slots := ⟨Nat.zero_le _, Nat.zero_le _⟩
  replace hct : ((0 : Nat), (0 : Nat)).1 + 1 ≤ (sR X).cells ∧ ((0 : Nat), (0 : Nat)).2 + 6 ≤ (sR X).slots := hct
  generalize hcs0 : ((0 : Nat), (0 : Nat)) = cs at hcs hct hthr hpr ⊢
  unfold fX9_read at h
  show sW X 3 cs σ 0 [some (.ref (sad X 0)), some (.int l1), none] []
  refine s_aload_n hX dX9_read_0 rfl ?_
  refine s_iload_n hX dX9_read_1 rfl ?_
  rcases bnT_e he h with ⟨r1, σ2, hc, h⟩ | ⟨r1, hc⟩
  · refine s_callVV _ hX (cX9_requireBlock_ok (sl X)  hc) SH_0 mv_RX9_94_8 (fun _ => rfl) (by decide) (Nat.le_of_ble_eq_true rfl) hcs dX9_read_2 rfl ?_
    refine s_aload_n hX dX9_read_5 rfl ?_
    refine s_getR (r := 113) hX fo_RX9_62_8 SH_0 rfl dX9_read_6 ?_
    refine s_aload_n hX dX9_read_9 rfl ?_
    refine s_getR (r := 1) hX fo_RX9_25_8 SH_0 rfl dX9_read_10 ?_
    refine s_getI hX fo_RX9_83_6 SH_1 rfl dX9_read_13 ?_
    obtain ⟨r3, σ4, hc, h⟩ := bn2_some h
    refine s_callVI _ hX (cX8_parse_ok (sl X)  hc) SH_113 mv_RX9_300_7 (fun _ => rfl) (by decide) (Nat.le_of_ble_eq_true rfl) hcs dX9_read_16 rfl ?_
    refine s_istore_n hX dX9_read_19 (by decide) ?_
    refine s_aload_n hX dX9_read_20 rfl ?_
    refine s_getR (r := 113) hX fo_RX9_62_8 SH_0 rfl dX9_read_21 ?_
    refine s_iconst 0 hX dX9_read_24 (by decide) ?_
    obtain ⟨σ5, eσ5, h⟩ := bd_some h
    refine s_putI hX fo_RX9_291_7 SH_113 rfl dX9_read_25 ?_
    refine s_mem σ5 eσ5 ?_
    refine s_iload_n hX dX9_read_28 rfl ?_
    refine s_if_ne (tgt := 43) hX dX9_read_29 (by decide) (fun c10 => ?_) (fun c10 => ?_)
    · replace h := (if_neg c10).symm.trans h
      refine s_aload_n hX dX9_read_43 rfl ?_
      refine s_getR (r := 1) hX fo_RX9_25_8 SH_0 rfl dX9_read_44 ?_
      refine s_getR (r := 2) hX fo_RX9_103_6 SH_1 rfl dX9_read_47 ?_
      refine s_iload_n hX dX9_read_50 rfl ?_
      obtain ⟨c6, h⟩ := gd_some h
      obtain ⟨k7, ek7, h⟩ := bd_some h
      have Bk7 : isB k7 := Or.inl ⟨_, vp_lt c6, ek7⟩
      refine s_aaldP hX c6 dX9_read_51 ?_
      refine s_topr k7 ek7 ?_
      refine s_aload_n hX dX9_read_52 rfl ?_
      refine s_getR (r := 113) hX fo_RX9_62_8 SH_0 rfl dX9_read_53 ?_
      refine s_getR (r := 115) hX fo_RX9_306_7 SH_113 rfl dX9_read_56 ?_
      obtain ⟨σ8, hc, h⟩ := bn_some h
      refine s_callVV _ hX (cX0_copyCode_ok (sl X) Bk7 isB_115 hc) (isB_0 Bk7) mv_RX9_310_0 (fun _ => rfl) (by decide) (Nat.le_of_ble_eq_true rfl) hcs dX9_read_59 rfl ?_
      refine s_aload_n hX dX9_read_62 rfl ?_
      obtain ⟨σ9, hc, h⟩ := bn_some h
      refine s_callVV _ hX (cX9_programChanged_ok (sl X)  hc) SH_0 mv_RX9_91_8 (fun _ => rfl) (by decide) (Nat.le_of_ble_eq_true rfl) hcs dX9_read_63 rfl ?_
      refine s_aload_n hX dX9_read_66 rfl ?_
      refine s_getR (r := 113) hX fo_RX9_62_8 SH_0 rfl dX9_read_67 ?_
      refine s_getR (r := 115) hX fo_RX9_306_7 SH_113 rfl dX9_read_70 ?_
      refine s_getI hX fo_RX9_107_0 (isB_0 isB_115) rfl dX9_read_73 ?_
      exact absurd (rt3 h).1 he
    · replace h := (if_pos c10).symm.trans h
      refine s_bipush (-100) hX dX9_read_32 (by decide) ?_
      refine s_aload_n hX dX9_read_34 rfl ?_
      refine s_getR (r := 113) hX fo_RX9_62_8 SH_0 rfl dX9_read_35 ?_
      refine s_getI hX fo_RX9_303_7 SH_113 rfl dX9_read_38 ?_
      refine s_isub hX dX9_read_41 ?_
      exact absurd (rt3 h).1 he
  · exact s_callVTV _ hX (cX9_requireBlock_th (sl X) hlX  he hc) SH_0 rfl mt_RX9_94 (fun _ => rfl) (by decide) (Nat.le_of_ble_eq_true rfl) hct dX9_read_2 rfl hpr
