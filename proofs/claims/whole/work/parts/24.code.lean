def gX10_colourIn_62 (σ : Mm) (l2 : Int32) (l4 : Int32) (l5 : Int32) (rec : Int32 × Int32 → Option (Int32)) (x3 : Int32) (x6 : Int32) : Option (Int32) :=
  if (σ 123 17) ≤ x6 then
  some x3
else
  gd ((8 * l5) + x6) 96 <|
  if (σ 142 ((8 * l5) + x6).toNatClampNeg) < 0 then
  bd (x6 + 1) fun v2 =>
  rec (x3, v2)
else
  gd x6 8 <|
  gd l2 8 <|
  if ((σ 138 x6.toNatClampNeg) &&& (σ 138 l2.toNatClampNeg)) = 0 then
  bd (x6 + 1) fun v5 =>
  rec (x3, v5)
else
  gd ((8 * l5) + x6) 96 <|
  bd (x3 ||| (1 <<< ((σ 142 ((8 * l5) + x6).toNatClampNeg) &&& 31))) fun v7 =>
  bd (x6 + 1) fun v8 =>
  rec (v7, v8)
def qX10_colourIn_62 (σ : Mm) (l2 : Int32) (l4 : Int32) (l5 : Int32) : Nat → Int32 × Int32 → Option (Int32) := lp (fun rec s => gX10_colourIn_62 σ l2 l4 l5 rec s.1 s.2)
def gX10_colourIn_17 (σ : Mm) (l2 : Int32) (l4 : Int32) (rec : Int32 × Int32 → Option (Int32)) (x3 : Int32) (x5 : Int32) : Option (Int32) :=
  if 12 ≤ x5 then
  some x3
else
  (fX10_has σ l4 x5).bind fun r1 =>
  if r1 = 0 then
  bd (x5 + 1) fun v10 =>
  rec (x3, v10)
else
  gd x5 12 <|
  jn (fun (v3 : Int32) => (qX10_colourIn_62 σ l2 l4 x5 FU (v3, 0)).bind fun v5 =>
  bd (x5 + 1) fun v6 =>
  rec (v5, v6)) fun j4 =>
  if (σ 139 x5.toNatClampNeg) = 0 then
  gd x5 12 <|
  bd (x3 ||| (1 <<< ((σ 140 x5.toNatClampNeg) &&& 31))) fun v8 =>
  j4 v8
else
  j4 x3
def qX10_colourIn_17 (σ : Mm) (l2 : Int32) (l4 : Int32) : Nat → Int32 × Int32 → Option (Int32) := lp (fun rec s => gX10_colourIn_17 σ l2 l4 rec s.1 s.2)
def gX10_colourIn_137 (σ : Mm) (l3 : Int32) (rec : Int32 → Option (Int32)) (x5 : Int32) : Option (Int32) :=
  (fX10_has σ l3 x5).bind fun r1 =>
  if r1 = 0 then
  some x5
else
  bd (x5 + 1) fun v2 =>
  rec v2
def qX10_colourIn_137 (σ : Mm) (l3 : Int32) : Nat → Int32 → Option (Int32) := lp (fun rec s => gX10_colourIn_137 σ l3 rec s)
def fX10_colourIn (σ : Mm) (l1 : Int32) (l2 : Int32) : Option Int32 :=
  gd l2 8 <|
  (fX10_presentIn σ (σ 138 l2.toNatClampNeg)).bind fun r2 =>
  (qX10_colourIn_17 σ l2 r2 FU (0, 0)).bind fun v3 =>
  (qX10_colourIn_137 σ v3 FU 0).bind fun v4 =>
  if (σ 123 20) ≤ v4 then
  some (-1)
else
  some v4
set_option maxHeartbeats 4000000 in
theorem pX10_colourIn_62 {X : sT} {cs : Nat × Nat} (hX : sX X cX10_colourIn RX10 7 3 69) (hcs : cs.1 ≤ (sR X).cells ∧ cs.2 ≤ (sR X).slots) (σ : Mm) (l2 : Int32) (l4 : Int32) (l5 : Int32)  : ∀ (n : Nat) (s : Int32 × Int32) (r : Int32), qX10_colourIn_62 σ l2 l4 l5 n s = some r → sW X 7 cs σ 128 [some (.ref (sad X 123)), none, some (.int l2), some (.int r), some (.int l4), some (.int l5), none] [] → sW X 7 cs σ 62 [some (.ref (sad X 123)), none, some (.int l2), some (.int s.1), some (.int l4), some (.int l5), some (.int s.2)] [] := by
  refine lp_ind (P := fun (s : Int32 × Int32) (r : Int32) => sW X 7 cs σ 128 [some (.ref (sad X 123)), none, some (.int l2), some (.int r), some (.int l4), some (.int l5), none] [] → sW X 7 cs σ 62 [some (.ref (sad X 123)), none, some (.int l2), some (.int s.1), some (.int l4), some (.int l5), some (.int s.2)] []) ?_
  intro rec hrec s r h0 hk
  obtain ⟨x3, x6⟩ := s
  have h : gX10_colourIn_62 σ l2 l4 l5 rec x3 x6 = some r := h0
  unfold gX10_colourIn_62 at h
  show sW X 7 cs σ 62 [some (.ref (sad X 123)), none, some (.int l2), some (.int x3), some (.int l4), some (.int l5), some (.int x6)] []
  refine s_iload hX dX10_colourIn_62 rfl ?_
  refine s_aload_n hX dX10_colourIn_64 rfl ?_
  refine s_getI hX fo_RX10_67_9 SH_123 rfl dX10_colourIn_65 ?_
  refine s_ic_ge (tgt := 128) hX dX10_colourIn_68 (by decide) (fun c11 => ?_) (fun c11 => ?_)
  · replace h := (if_pos c11).symm.trans h
    obtain rfl := rt1 h
    refine s_mask [true, false, true, true, true, true, false] ?_
    exact hk
  · replace h := (if_neg c11).symm.trans h
    refine s_aload_n hX dX10_colourIn_71 rfl ?_
    refine s_getR (r := 142) hX fo_RX10_94_9 SH_123 rfl dX10_colourIn_72 ?_
    refine s_bipush 8 hX dX10_colourIn_75 (by decide) ?_
    refine s_iload hX dX10_colourIn_77 rfl ?_
    refine s_imul hX dX10_colourIn_79 ?_
    refine s_iload hX dX10_colourIn_80 rfl ?_
    refine s_iadd hX dX10_colourIn_82 ?_
    obtain ⟨c1, h⟩ := gd_some h
    refine s_iald hX SH_142 c1 dX10_colourIn_83 ?_
    refine s_if_lt (tgt := 122) hX dX10_colourIn_84 (by decide) (fun c10 => ?_) (fun c10 => ?_)
    · replace h := (if_pos c10).symm.trans h
      obtain ⟨v2, ev2, h⟩ := bd_some h
      refine s_iinc v2 hX dX10_colourIn_122 rfl (by rw [ev2]; rfl) (by decide) ?_
      refine s_goto (tgt := 62) hX dX10_colourIn_125 (by decide) ?_
      refine s_mask [true, false, true, true, true, true, true] ?_
      exact hrec _ _ h hk
    · replace h := (if_neg c10).symm.trans h
      refine s_aload_n hX dX10_colourIn_87 rfl ?_
      refine s_getR (r := 138) hX fo_RX10_73_9 SH_123 rfl dX10_colourIn_88 ?_
      refine s_iload hX dX10_colourIn_91 rfl ?_
      obtain ⟨c3, h⟩ := gd_some h
      refine s_iald hX SH_138 c3 dX10_colourIn_93 ?_
      refine s_aload_n hX dX10_colourIn_94 rfl ?_
      refine s_getR (r := 138) hX fo_RX10_73_9 SH_123 rfl dX10_colourIn_95 ?_
      refine s_iload_n hX dX10_colourIn_98 rfl ?_
      obtain ⟨c4, h⟩ := gd_some h
      refine s_iald hX SH_138 c4 dX10_colourIn_99 ?_
      refine s_iand hX dX10_colourIn_100 ?_
      refine s_if_eq (tgt := 122) hX dX10_colourIn_101 (by decide) (fun c9 => ?_) (fun c9 => ?_)
      · replace h := (if_pos c9).symm.trans h
        obtain ⟨v5, ev5, h⟩ := bd_some h
        refine s_iinc v5 hX dX10_colourIn_122 rfl (by rw [ev5]; rfl) (by decide) ?_
        refine s_goto (tgt := 62) hX dX10_colourIn_125 (by decide) ?_
        refine s_mask [true, false, true, true, true, true, true] ?_
        exact hrec _ _ h hk
      · replace h := (if_neg c9).symm.trans h
        refine s_iload_n hX dX10_colourIn_104 rfl ?_
        refine s_iconst 1 hX dX10_colourIn_105 (by decide) ?_
        refine s_aload_n hX dX10_colourIn_106 rfl ?_
        refine s_getR (r := 142) hX fo_RX10_94_9 SH_123 rfl dX10_colourIn_107 ?_
        refine s_bipush 8 hX dX10_colourIn_110 (by decide) ?_
        refine s_iload hX dX10_colourIn_112 rfl ?_
        refine s_imul hX dX10_colourIn_114 ?_
        refine s_iload hX dX10_colourIn_115 rfl ?_
        refine s_iadd hX dX10_colourIn_117 ?_
        obtain ⟨c6, h⟩ := gd_some h
        refine s_iald hX SH_142 c6 dX10_colourIn_118 ?_
        refine s_ishl hX dX10_colourIn_119 ?_
        refine s_ior hX dX10_colourIn_120 ?_
        obtain ⟨v7, ev7, h⟩ := bd_some h
        refine s_topi v7 ev7 ?_
        refine s_istore_n hX dX10_colourIn_121 (by decide) ?_
        obtain ⟨v8, ev8, h⟩ := bd_some h
        refine s_iinc v8 hX dX10_colourIn_122 rfl (by rw [ev8]; rfl) (by decide) ?_
        refine s_goto (tgt := 62) hX dX10_colourIn_125 (by decide) ?_
        refine s_mask [true, false, true, true, true, true, true] ?_
        exact hrec _ _ h hk
set_option maxHeartbeats 4000000 in
theorem pX10_colourIn_17 {X : sT} {cs : Nat × Nat} (hX : sX X cX10_colourIn RX10 7 3 69) (hcs : cs.1 ≤ (sR X).cells ∧ cs.2 ≤ (sR X).slots) (σ : Mm) (l2 : Int32) (l4 : Int32)  : ∀ (n : Nat) (s : Int32 × Int32) (r : Int32), qX10_colourIn_17 σ l2 l4 n s = some r → sW X 7 cs σ 134 [some (.ref (sad X 123)), none, none, some (.int r), none, none, none] [] → sW X 7 cs σ 17 [some (.ref (sad X 123)), none, some (.int l2), some (.int s.1), some (.int l4), some (.int s.2), none] [] := by
  refine lp_ind (P := fun (s : Int32 × Int32) (r : Int32) => sW X 7 cs σ 134 [some (.ref (sad X 123)), none, none, some (.int r), none, none, none] [] → sW X 7 cs σ 17 [some (.ref (sad X 123)), none, some (.int l2), some (.int s.1), some (.int l4), some (.int s.2), none] []) ?_
  intro rec hrec s r h0 hk
  obtain ⟨x3, x5⟩ := s
  have h : gX10_colourIn_17 σ l2 l4 rec x3 x5 = some r := h0
  unfold gX10_colourIn_17 at h
  show sW X 7 cs σ 17 [some (.ref (sad X 123)), none, some (.int l2), some (.int x3), some (.int l4), some (.int x5), none] []
  refine s_iload hX dX10_colourIn_17 rfl ?_
  refine s_bipush 12 hX dX10_colourIn_19 (by decide) ?_
  refine s_ic_ge (tgt := 134) hX dX10_colourIn_21 (by decide) (fun c12 => ?_) (fun c12 => ?_)
  · replace h := (if_pos c12).symm.trans h
    obtain rfl := rt1 h
    refine s_mask [true, false, false, true, false, false, false] ?_
    exact hk
  · replace h := (if_neg c12).symm.trans h
    refine s_iload hX dX10_colourIn_24 rfl ?_
    refine s_iload hX dX10_colourIn_26 rfl ?_
    obtain ⟨r1, hc, h⟩ := bn_some h
    refine s_callSI _ hX (cX10_has_ok (sl X)  hc) ms_RX10_255 (fun _ => rfl) (by decide) (Nat.le_of_ble_eq_true rfl) hcs dX10_colourIn_28 rfl ?_
    refine s_if_ne (tgt := 37) hX dX10_colourIn_31 (by decide) (fun c11 => ?_) (fun c11 => ?_)
    · replace h := (if_neg c11).symm.trans h
      refine s_aload_n hX dX10_colourIn_37 rfl ?_
      refine s_getR (r := 139) hX fo_RX10_85_9 SH_123 rfl dX10_colourIn_38 ?_
      refine s_iload hX dX10_colourIn_41 rfl ?_
      obtain ⟨c2, h⟩ := gd_some h
      refine s_iald hX SH_139 c2 dX10_colourIn_43 ?_
      refine jn_use (fun j => ∀ (v3 : Int32), j v3 = some r → sW X 7 cs σ 59 [some (.ref (sad X 123)), none, some (.int l2), some (.int v3), some (.int l4), some (.int x5), none] []) h ?_ ?_
      · intro v3 h
        refine s_iconst 0 hX dX10_colourIn_59 (by decide) ?_
        refine s_istore hX dX10_colourIn_60 (by decide) ?_
        obtain ⟨v5, hc, h⟩ := bn_some h
        refine s_mask [true, false, true, true, true, true, true] ?_
        refine pX10_colourIn_62 hX hcs _ _ _ _ _ _ _ hc ?_
        obtain ⟨v6, ev6, h⟩ := bd_some h
        refine s_iinc v6 hX dX10_colourIn_128 rfl (by rw [ev6]; rfl) (by decide) ?_
        refine s_goto (tgt := 17) hX dX10_colourIn_131 (by decide) ?_
        refine s_mask [true, false, true, true, true, true, false] ?_
        exact hrec _ _ h hk
      · intro j4 hj4 h
        refine s_if_ne (tgt := 59) hX dX10_colourIn_44 (by decide) (fun c9 => ?_) (fun c9 => ?_)
        · replace h := (if_neg c9).symm.trans h
          refine s_mask [true, false, true, true, true, true, false] ?_
          exact hj4 _ h
        · replace h := (if_pos c9).symm.trans h
          refine s_iload_n hX dX10_colourIn_47 rfl ?_
          refine s_iconst 1 hX dX10_colourIn_48 (by decide) ?_
          refine s_aload_n hX dX10_colourIn_49 rfl ?_
          refine s_getR (r := 140) hX fo_RX10_88_9 SH_123 rfl dX10_colourIn_50 ?_
          refine s_iload hX dX10_colourIn_53 rfl ?_
          obtain ⟨c7, h⟩ := gd_some h
          refine s_iald hX SH_140 c7 dX10_colourIn_55 ?_
          refine s_ishl hX dX10_colourIn_56 ?_
          refine s_ior hX dX10_colourIn_57 ?_
          obtain ⟨v8, ev8, h⟩ := bd_some h
          refine s_topi v8 ev8 ?_
          refine s_istore_n hX dX10_colourIn_58 (by decide) ?_
          refine s_mask [true, false, true, true, true, true, false] ?_
          exact hj4 _ h
    · replace h := (if_pos c11).symm.trans h
      refine s_goto (tgt := 128) hX dX10_colourIn_34 (by decide) ?_
      obtain ⟨v10, ev10, h⟩ := bd_some h
      refine s_iinc v10 hX dX10_colourIn_128 rfl (by rw [ev10]; rfl) (by decide) ?_
      refine s_goto (tgt := 17) hX dX10_colourIn_131 (by decide) ?_
      refine s_mask [true, false, true, true, true, true, false] ?_
      exact hrec _ _ h hk
set_option maxHeartbeats 4000000 in
theorem pX10_colourIn_137 {X : sT} {cs : Nat × Nat} (hX : sX X cX10_colourIn RX10 7 3 69) (hcs : cs.1 ≤ (sR X).cells ∧ cs.2 ≤ (sR X).slots) (σ : Mm) (l3 : Int32)  : ∀ (n : Nat) (s : Int32) (r : Int32), qX10_colourIn_137 σ l3 n s = some r → sW X 7 cs σ 152 [some (.ref (sad X 123)), none, none, none, none, some (.int r), none] [] → sW X 7 cs σ 137 [some (.ref (sad X 123)), none, none, some (.int l3), none, some (.int s), none] [] := by
  refine lp_ind (P := fun (s : Int32) (r : Int32) => sW X 7 cs σ 152 [some (.ref (sad X 123)), none, none, none, none, some (.int r), none] [] → sW X 7 cs σ 137 [some (.ref (sad X 123)), none, none, some (.int l3), none, some (.int s), none] []) ?_
  intro rec hrec s r h0 hk
  obtain ⟨x5, e0⟩ : ∃ z, z = s := ⟨s, rfl⟩
  subst e0
  have h : gX10_colourIn_137 σ l3 rec x5 = some r := h0
  unfold gX10_colourIn_137 at h
  show sW X 7 cs σ 137 [some (.ref (sad X 123)), none, none, some (.int l3), none, some (.int x5), none] []
  refine s_iload_n hX dX10_colourIn_137 rfl ?_
  refine s_iload hX dX10_colourIn_138 rfl ?_
  obtain ⟨r1, hc, h⟩ := bn_some h
  refine s_callSI _ hX (cX10_has_ok (sl X)  hc) ms_RX10_255 (fun _ => rfl) (by decide) (Nat.le_of_ble_eq_true rfl) hcs dX10_colourIn_140 rfl ?_
  refine s_if_eq (tgt := 152) hX dX10_colourIn_143 (by decide) (fun c3 => ?_) (fun c3 => ?_)
  · replace h := (if_pos c3).symm.trans h
    obtain rfl := rt1 h
    refine s_mask [true, false, false, false, false, true, false] ?_
    exact hk
  · replace h := (if_neg c3).symm.trans h
    obtain ⟨v2, ev2, h⟩ := bd_some h
    refine s_iinc v2 hX dX10_colourIn_146 rfl (by rw [ev2]; rfl) (by decide) ?_
    refine s_goto (tgt := 137) hX dX10_colourIn_149 (by decide) ?_
    refine s_mask [true, false, false, true, false, true, false] ?_
    exact hrec _ _ h hk
set_option maxHeartbeats 4000000 in
theorem cX10_colourIn_ok (l : Launch) {σ : Mm} {l1 : Int32} {l2 : Int32} {r : Int32}  (h : fX10_colourIn σ l1 l2 = some r) : cI l yX10_colourIn cX10_colourIn 7 .int 3 69 (fun ad => [.ref (ad 123), .int l1, .int l2]) σ r σ := by
  refine c_enterI (fun ad => [some (.ref (ad 123)), some (.int l1), some (.int l2), none, none, none, none]) (by decide) (fun ad => ⟨by simp [Value.category], Nat.le_of_ble_eq_true rfl⟩) (fun ad => ⟨4, rfl⟩) ?_
  intro X _ hX hret
  have hcs : ((0 : Nat), (0 : Nat)).1 ≤ (sR X).cells ∧ ((0 : Nat), (0 : Nat)).2 ≤ (sR X).slots := ⟨Nat.zero_le _, Nat.zero_le _⟩
  generalize hcs0 : ((0 : Nat), (0 : Nat)) = cs at hcs hret ⊢
  unfold fX10_colourIn at h
  show sW X 7 cs σ 0 [some (.ref (sad X 123)), some (.int l1), some (.int l2), none, none, none, none] []
  refine s_iconst 0 hX dX10_colourIn_0 (by decide) ?_
  refine s_istore_n hX dX10_colourIn_1 (by decide) ?_
  refine s_aload_n hX dX10_colourIn_2 rfl ?_
  refine s_aload_n hX dX10_colourIn_3 rfl ?_
  refine s_getR (r := 138) hX fo_RX10_73_9 SH_123 rfl dX10_colourIn_4 ?_
  refine s_iload_n hX dX10_colourIn_7 rfl ?_
  obtain ⟨c1, h⟩ := gd_some h
  refine s_iald hX SH_138 c1 dX10_colourIn_8 ?_
  obtain ⟨r2, hc, h⟩ := bn_some h
  refine s_callVI _ hX (cX10_presentIn_ok (sl X)  hc) SH_123 mv_RX10_312_9 (fun _ => rfl) (by decide) (Nat.le_of_ble_eq_true rfl) hcs dX10_colourIn_9 rfl ?_
  refine s_istore hX dX10_colourIn_12 (by decide) ?_
  refine s_iconst 0 hX dX10_colourIn_14 (by decide) ?_
  refine s_istore hX dX10_colourIn_15 (by decide) ?_
  obtain ⟨v3, hc, h⟩ := bn_some h
  refine s_mask [true, false, true, true, true, true, false] ?_
  refine pX10_colourIn_17 hX hcs _ _ _ _ _ _ hc ?_
  refine s_iconst 0 hX dX10_colourIn_134 (by decide) ?_
  refine s_istore hX dX10_colourIn_135 (by decide) ?_
  obtain ⟨v4, hc, h⟩ := bn_some h
  refine s_mask [true, false, false, true, false, true, false] ?_
  refine pX10_colourIn_137 hX hcs _ _ _ _ _ hc ?_
  refine s_iload hX dX10_colourIn_152 rfl ?_
  refine s_aload_n hX dX10_colourIn_154 rfl ?_
  refine s_getI hX fo_RX10_76_9 SH_123 rfl dX10_colourIn_155 ?_
  refine s_ic_ge (tgt := 166) hX dX10_colourIn_158 (by decide) (fun c5 => ?_) (fun c5 => ?_)
  · replace h := (if_pos c5).symm.trans h
    refine s_iconst (-1) hX dX10_colourIn_166 (by decide) ?_
    obtain rfl := rt1 h
    exact hret _ _ (nzi _) dX10_colourIn_167
  · replace h := (if_neg c5).symm.trans h
    refine s_iload hX dX10_colourIn_161 rfl ?_
    refine s_goto (tgt := 167) hX dX10_colourIn_163 (by decide) ?_
    obtain rfl := rt1 h
    exact hret _ _ (nzi _) dX10_colourIn_167
def gX10_promotes_35 (σ : Mm) (l1 : Int32) (l2 : Int32) (rec : Int32 × Int32 → Option (Int32)) (x3 : Int32) (x4 : Int32) : Option (Int32) :=
  if (σ 123 17) ≤ x4 then
  some x3
else
  gd ((8 * l2) + x4) 96 <|
  if (σ 142 ((8 * l2) + x4).toNatClampNeg) < 0 then
  bd (x3 ||| 0) fun v2 =>
  bd (x4 + 1) fun v3 =>
  rec (v2, v3)
else
  (fX10_isWithin σ l1 x4).bind fun r4 =>
  if r4 = 0 then
  (fX10_isWithin σ x4 l1).bind fun r7 =>
  if r7 = 0 then
  bd (x3 ||| 0) fun v8 =>
  bd (x4 + 1) fun v9 =>
  rec (v8, v9)
else
  bd (x3 ||| 1) fun v10 =>
  bd (x4 + 1) fun v11 =>
  rec (v10, v11)
else
  bd (x3 ||| 1) fun v5 =>
  bd (x4 + 1) fun v6 =>
  rec (v5, v6)
def qX10_promotes_35 (σ : Mm) (l1 : Int32) (l2 : Int32) : Nat → Int32 × Int32 → Option (Int32) := lp (fun rec s => gX10_promotes_35 σ l1 l2 rec s.1 s.2)
def gX10_promotes_2 (l1 : Int32) (rec : Mm × Int32 → Option (Mm)) (σ : Mm) (x2 : Int32) : Option (Mm) :=
  if 12 ≤ x2 then
  some σ
else
  gd x2 12 <|
  if (σ 139 x2.toNatClampNeg) = 1 then
  (fX10_gain σ x2 l1).bind fun r3 =>
  if 0 < r3 then
  (qX10_promotes_35 σ l1 x2 FU (0, 0)).bind fun v4 =>
  jn (fun (v5 : Int32) => if 0 ≤ v5 then
  gd ((8 * x2) + l1) 96 <|
  bd (upm σ 142 (upd (σ 142) ((8 * x2) + l1).toNatClampNeg v5)) fun σ8 =>
  (fX10_gain σ8 x2 l1).bind fun r9 =>
  bd (upm σ8 123 (upd (σ8 123) 22 ((σ8 123 22) + r9))) fun σ10 =>
  bd (x2 + 1) fun v11 =>
  rec (σ10, v11)
else
  bd (x2 + 1) fun v12 =>
  rec (σ, v12)) fun j6 =>
  if v4 = 0 then
  (fX10_colourIn σ x2 l1).bind fun r14 =>
  j6 r14
else
  j6 (-1)
else
  bd (x2 + 1) fun v16 =>
  rec (σ, v16)
else
  bd (x2 + 1) fun v2 =>
  rec (σ, v2)
def qX10_promotes_2 (l1 : Int32) : Nat → Mm × Int32 → Option (Mm) := lp (fun rec s => gX10_promotes_2 l1 rec s.1 s.2)
def fX10_promotes (σ : Mm) (l1 : Int32) : Option Mm :=
  (qX10_promotes_2 l1 FU (σ, 0)).bind fun σ1 =>
  some σ1
set_option maxHeartbeats 4000000 in
theorem pX10_promotes_35 {X : sT} {cs : Nat × Nat} (hX : sX X cX10_promotes RX10 5 4 95) (hcs : cs.1 ≤ (sR X).cells ∧ cs.2 ≤ (sR X).slots) (σ : Mm) (l1 : Int32) (l2 : Int32)  : ∀ (n : Nat) (s : Int32 × Int32) (r : Int32), qX10_promotes_35 σ l1 l2 n s = some r → sW X 5 cs σ 93 [some (.ref (sad X 123)), some (.int l1), some (.int l2), some (.int r), none] [] → sW X 5 cs σ 35 [some (.ref (sad X 123)), some (.int l1), some (.int l2), some (.int s.1), some (.int s.2)] [] := by
  refine lp_ind (P := fun (s : Int32 × Int32) (r : Int32) => sW X 5 cs σ 93 [some (.ref (sad X 123)), some (.int l1), some (.int l2), some (.int r), none] [] → sW X 5 cs σ 35 [some (.ref (sad X 123)), some (.int l1), some (.int l2), some (.int s.1), some (.int s.2)] []) ?_
  intro rec hrec s r h0 hk
  obtain ⟨x3, x4⟩ := s
  have h : gX10_promotes_35 σ l1 l2 rec x3 x4 = some r := h0
  unfold gX10_promotes_35 at h
  show sW X 5 cs σ 35 [some (.ref (sad X 123)), some (.int l1), some (.int l2), some (.int x3), some (.int x4)] []
  refine s_iload hX dX10_promotes_35 rfl ?_
  refine s_aload_n hX dX10_promotes_37 rfl ?_
  refine s_getI hX fo_RX10_67_9 SH_123 rfl dX10_promotes_38 ?_
  refine s_ic_ge (tgt := 93) hX dX10_promotes_41 (by decide) (fun c15 => ?_) (fun c15 => ?_)
  · replace h := (if_pos c15).symm.trans h
    obtain rfl := rt1 h
    refine s_mask [true, true, true, true, false] ?_
    exact hk
  · replace h := (if_neg c15).symm.trans h
    refine s_iload_n hX dX10_promotes_44 rfl ?_
    refine s_aload_n hX dX10_promotes_45 rfl ?_
    refine s_getR (r := 142) hX fo_RX10_94_9 SH_123 rfl dX10_promotes_46 ?_
    refine s_bipush 8 hX dX10_promotes_49 (by decide) ?_
    refine s_iload_n hX dX10_promotes_51 rfl ?_
    refine s_imul hX dX10_promotes_52 ?_
    refine s_iload hX dX10_promotes_53 rfl ?_
    refine s_iadd hX dX10_promotes_55 ?_
    obtain ⟨c1, h⟩ := gd_some h
    refine s_iald hX SH_142 c1 dX10_promotes_56 ?_
    refine s_if_lt (tgt := 84) hX dX10_promotes_57 (by decide) (fun c14 => ?_) (fun c14 => ?_)
    · replace h := (if_pos c14).symm.trans h
      refine s_iconst 0 hX dX10_promotes_84 (by decide) ?_
      refine s_ior hX dX10_promotes_85 ?_
      obtain ⟨v2, ev2, h⟩ := bd_some h
      refine s_topi v2 ev2 ?_
      refine s_istore_n hX dX10_promotes_86 (by decide) ?_
      obtain ⟨v3, ev3, h⟩ := bd_some h
      refine s_iinc v3 hX dX10_promotes_87 rfl (by rw [ev3]; rfl) (by decide) ?_
      refine s_goto (tgt := 35) hX dX10_promotes_90 (by decide) ?_
      refine s_mask [true, true, true, true, true] ?_
      exact hrec _ _ h hk
    · replace h := (if_neg c14).symm.trans h
      refine s_aload_n hX dX10_promotes_60 rfl ?_
      refine s_iload_n hX dX10_promotes_61 rfl ?_
      refine s_iload hX dX10_promotes_62 rfl ?_
      obtain ⟨r4, hc, h⟩ := bn_some h
      refine s_callVI _ hX (cX10_isWithin_ok (sl X)  hc) SH_123 mv_RX10_279_9 (fun _ => rfl) (by decide) (Nat.le_of_ble_eq_true rfl) hcs dX10_promotes_64 rfl ?_
      refine s_if_ne (tgt := 80) hX dX10_promotes_67 (by decide) (fun c13 => ?_) (fun c13 => ?_)
      · replace h := (if_neg c13).symm.trans h
        refine s_iconst 1 hX dX10_promotes_80 (by decide) ?_
        refine s_goto (tgt := 85) hX dX10_promotes_81 (by decide) ?_
        refine s_ior hX dX10_promotes_85 ?_
        obtain ⟨v5, ev5, h⟩ := bd_some h
        refine s_topi v5 ev5 ?_
        refine s_istore_n hX dX10_promotes_86 (by decide) ?_
        obtain ⟨v6, ev6, h⟩ := bd_some h
        refine s_iinc v6 hX dX10_promotes_87 rfl (by rw [ev6]; rfl) (by decide) ?_
        refine s_goto (tgt := 35) hX dX10_promotes_90 (by decide) ?_
        refine s_mask [true, true, true, true, true] ?_
        exact hrec _ _ h hk
      · replace h := (if_pos c13).symm.trans h
        refine s_aload_n hX dX10_promotes_70 rfl ?_
        refine s_iload hX dX10_promotes_71 rfl ?_
        refine s_iload_n hX dX10_promotes_73 rfl ?_
        obtain ⟨r7, hc, h⟩ := bn_some h
        refine s_callVI _ hX (cX10_isWithin_ok (sl X)  hc) SH_123 mv_RX10_279_9 (fun _ => rfl) (by decide) (Nat.le_of_ble_eq_true rfl) hcs dX10_promotes_74 rfl ?_
        refine s_if_eq (tgt := 84) hX dX10_promotes_77 (by decide) (fun c12 => ?_) (fun c12 => ?_)
        · replace h := (if_pos c12).symm.trans h
          refine s_iconst 0 hX dX10_promotes_84 (by decide) ?_
          refine s_ior hX dX10_promotes_85 ?_
          obtain ⟨v8, ev8, h⟩ := bd_some h
          refine s_topi v8 ev8 ?_
          refine s_istore_n hX dX10_promotes_86 (by decide) ?_
          obtain ⟨v9, ev9, h⟩ := bd_some h
          refine s_iinc v9 hX dX10_promotes_87 rfl (by rw [ev9]; rfl) (by decide) ?_
          refine s_goto (tgt := 35) hX dX10_promotes_90 (by decide) ?_
          refine s_mask [true, true, true, true, true] ?_
          exact hrec _ _ h hk
        · replace h := (if_neg c12).symm.trans h
          refine s_iconst 1 hX dX10_promotes_80 (by decide) ?_
          refine s_goto (tgt := 85) hX dX10_promotes_81 (by decide) ?_
          refine s_ior hX dX10_promotes_85 ?_
          obtain ⟨v10, ev10, h⟩ := bd_some h
          refine s_topi v10 ev10 ?_
          refine s_istore_n hX dX10_promotes_86 (by decide) ?_
          obtain ⟨v11, ev11, h⟩ := bd_some h
          refine s_iinc v11 hX dX10_promotes_87 rfl (by rw [ev11]; rfl) (by decide) ?_
          refine s_goto (tgt := 35) hX dX10_promotes_90 (by decide) ?_
          refine s_mask [true, true, true, true, true] ?_
          exact hrec _ _ h hk
set_option maxHeartbeats 4000000 in
theorem pX10_promotes_2 {X : sT} {cs : Nat × Nat} (hX : sX X cX10_promotes RX10 5 4 95) (hcs : cs.1 ≤ (sR X).cells ∧ cs.2 ≤ (sR X).slots) (l1 : Int32)  : ∀ (n : Nat) (s : Mm × Int32) (r : Mm), qX10_promotes_2 l1 n s = some r → sW X 5 cs r 151 [none, none, none, none, none] [] → sW X 5 cs s.1 2 [some (.ref (sad X 123)), some (.int l1), some (.int s.2), none, none] [] := by
  refine lp_ind (P := fun (s : Mm × Int32) (r : Mm) => sW X 5 cs r 151 [none, none, none, none, none] [] → sW X 5 cs s.1 2 [some (.ref (sad X 123)), some (.int l1), some (.int s.2), none, none] []) ?_
  intro rec hrec s r h0 hk
  obtain ⟨σ, x2⟩ := s
  have h : gX10_promotes_2 l1 rec σ x2 = some r := h0
  unfold gX10_promotes_2 at h
  show sW X 5 cs σ 2 [some (.ref (sad X 123)), some (.int l1), some (.int x2), none, none] []
  refine s_iload_n hX dX10_promotes_2 rfl ?_
  refine s_bipush 12 hX dX10_promotes_3 (by decide) ?_
  refine s_ic_ge (tgt := 151) hX dX10_promotes_5 (by decide) (fun c19 => ?_) (fun c19 => ?_)
  · replace h := (if_pos c19).symm.trans h
    obtain rfl := rt1 h
    refine s_mask [false, false, false, false, false] ?_
    exact hk
  · replace h := (if_neg c19).symm.trans h
    refine s_aload_n hX dX10_promotes_8 rfl ?_
    refine s_getR (r := 139) hX fo_RX10_85_9 SH_123 rfl dX10_promotes_9 ?_
    refine s_iload_n hX dX10_promotes_12 rfl ?_
    obtain ⟨c1, h⟩ := gd_some h
    refine s_iald hX SH_139 c1 dX10_promotes_13 ?_
    refine s_iconst 1 hX dX10_promotes_14 (by decide) ?_
    refine s_ic_ne (tgt := 145) hX dX10_promotes_15 (by decide) (fun c18 => ?_) (fun c18 => ?_)
    · replace h := (if_neg c18).symm.trans h
      obtain ⟨v2, ev2, h⟩ := bd_some h
      refine s_iinc v2 hX dX10_promotes_145 rfl (by rw [ev2]; rfl) (by decide) ?_
      refine s_goto (tgt := 2) hX dX10_promotes_148 (by decide) ?_
      refine s_mask [true, true, true, false, false] ?_
      exact hrec _ _ h hk
    · replace h := (if_pos c18).symm.trans h
      refine s_aload_n hX dX10_promotes_18 rfl ?_
      refine s_iload_n hX dX10_promotes_19 rfl ?_
      refine s_iload_n hX dX10_promotes_20 rfl ?_
      obtain ⟨r3, hc, h⟩ := bn_some h
      refine s_callVI _ hX (cX10_gain_ok (sl X)  hc) SH_123 mv_RX10_315_9 (fun _ => rfl) (by decide) (Nat.le_of_ble_eq_true rfl) hcs dX10_promotes_21 rfl ?_
      refine s_if_gt (tgt := 30) hX dX10_promotes_24 (by decide) (fun c17 => ?_) (fun c17 => ?_)
      · replace h := (if_pos c17).symm.trans h
        refine s_iconst 0 hX dX10_promotes_30 (by decide) ?_
        refine s_istore_n hX dX10_promotes_31 (by decide) ?_
        refine s_iconst 0 hX dX10_promotes_32 (by decide) ?_
        refine s_istore hX dX10_promotes_33 (by decide) ?_
        obtain ⟨v4, hc, h⟩ := bn_some h
        refine s_mask [true, true, true, true, true] ?_
        refine pX10_promotes_35 hX hcs _ _ _ _ _ _ hc ?_
        refine s_iload_n hX dX10_promotes_93 rfl ?_
        refine jn_use (fun j => ∀ (v5 : Int32), j v5 = some r → sW X 5 cs σ 107 [some (.ref (sad X 123)), some (.int l1), some (.int x2), none, none] [.int v5]) h ?_ ?_
        · intro v5 h
          refine s_istore hX dX10_promotes_107 (by decide) ?_
          refine s_iload hX dX10_promotes_109 rfl ?_
          refine s_if_ge (tgt := 117) hX dX10_promotes_111 (by decide) (fun c13 => ?_) (fun c13 => ?_)
          · replace h := (if_pos c13).symm.trans h
            refine s_aload_n hX dX10_promotes_117 rfl ?_
            refine s_getR (r := 142) hX fo_RX10_94_9 SH_123 rfl dX10_promotes_118 ?_
            refine s_bipush 8 hX dX10_promotes_121 (by decide) ?_
            refine s_iload_n hX dX10_promotes_123 rfl ?_
            refine s_imul hX dX10_promotes_124 ?_
            refine s_iload_n hX dX10_promotes_125 rfl ?_
            refine s_iadd hX dX10_promotes_126 ?_
            refine s_iload hX dX10_promotes_127 rfl ?_
            obtain ⟨c7, h⟩ := gd_some h
            obtain ⟨σ8, eσ8, h⟩ := bd_some h
            refine s_iast hX SH_142 c7 dX10_promotes_129 ?_
            refine s_mem σ8 eσ8 ?_
            refine s_aload_n hX dX10_promotes_130 rfl ?_
            refine s_dup hX dX10_promotes_131 rfl ?_
            refine s_getI hX fo_RX10_82_9 SH_123 rfl dX10_promotes_132 ?_
            refine s_aload_n hX dX10_promotes_135 rfl ?_
            refine s_iload_n hX dX10_promotes_136 rfl ?_
            refine s_iload_n hX dX10_promotes_137 rfl ?_
            obtain ⟨r9, hc, h⟩ := bn_some h
            refine s_callVI _ hX (cX10_gain_ok (sl X)  hc) SH_123 mv_RX10_315_9 (fun _ => rfl) (by decide) (Nat.le_of_ble_eq_true rfl) hcs dX10_promotes_138 rfl ?_
            refine s_iadd hX dX10_promotes_141 ?_
            obtain ⟨σ10, eσ10, h⟩ := bd_some h
            refine s_putI hX fo_RX10_82_9 SH_123 rfl dX10_promotes_142 ?_
            refine s_mem σ10 eσ10 ?_
            obtain ⟨v11, ev11, h⟩ := bd_some h
            refine s_iinc v11 hX dX10_promotes_145 rfl (by rw [ev11]; rfl) (by decide) ?_
            refine s_goto (tgt := 2) hX dX10_promotes_148 (by decide) ?_
            refine s_mask [true, true, true, false, false] ?_
            exact hrec _ _ h hk
          · replace h := (if_neg c13).symm.trans h
            refine s_goto (tgt := 145) hX dX10_promotes_114 (by decide) ?_
            obtain ⟨v12, ev12, h⟩ := bd_some h
            refine s_iinc v12 hX dX10_promotes_145 rfl (by rw [ev12]; rfl) (by decide) ?_
            refine s_goto (tgt := 2) hX dX10_promotes_148 (by decide) ?_
            refine s_mask [true, true, true, false, false] ?_
            exact hrec _ _ h hk
        · intro j6 hj6 h
          refine s_if_eq (tgt := 101) hX dX10_promotes_94 (by decide) (fun c15 => ?_) (fun c15 => ?_)
          · replace h := (if_pos c15).symm.trans h
            refine s_aload_n hX dX10_promotes_101 rfl ?_
            refine s_iload_n hX dX10_promotes_102 rfl ?_
            refine s_iload_n hX dX10_promotes_103 rfl ?_
            obtain ⟨r14, hc, h⟩ := bn_some h
            refine s_callVI _ hX (cX10_colourIn_ok (sl X)  hc) SH_123 mv_RX10_318_9 (fun _ => rfl) (by decide) (Nat.le_of_ble_eq_true rfl) hcs dX10_promotes_104 rfl ?_
            refine s_mask [true, true, true, false, false] ?_
            exact hj6 _ h
          · replace h := (if_neg c15).symm.trans h
            refine s_iconst (-1) hX dX10_promotes_97 (by decide) ?_
            refine s_goto (tgt := 107) hX dX10_promotes_98 (by decide) ?_
            refine s_mask [true, true, true, false, false] ?_
            exact hj6 _ h
      · replace h := (if_neg c17).symm.trans h
        refine s_goto (tgt := 145) hX dX10_promotes_27 (by decide) ?_
        obtain ⟨v16, ev16, h⟩ := bd_some h
        refine s_iinc v16 hX dX10_promotes_145 rfl (by rw [ev16]; rfl) (by decide) ?_
        refine s_goto (tgt := 2) hX dX10_promotes_148 (by decide) ?_
        refine s_mask [true, true, true, false, false] ?_
        exact hrec _ _ h hk
set_option maxHeartbeats 4000000 in
theorem cX10_promotes_ok (l : Launch) {σ : Mm} {l1 : Int32} {σ' : Mm}  (h : fX10_promotes σ l1 = some σ') : cV l yX10_promotes cX10_promotes 5 4 95 (fun ad => [.ref (ad 123), .int l1]) σ σ' := by
  refine c_enterV (fun ad => [some (.ref (ad 123)), some (.int l1), none, none, none]) (by decide) (fun ad => ⟨by simp [Value.category], Nat.le_of_ble_eq_true rfl⟩) (fun ad => ⟨3, rfl⟩) ?_
  intro X _ hX hret
  have hcs : ((0 : Nat), (0 : Nat)).1 ≤ (sR X).cells ∧ ((0 : Nat), (0 : Nat)).2 ≤ (sR X).slots := ⟨Nat.zero_le _, Nat.zero_le _⟩
  generalize hcs0 : ((0 : Nat), (0 : Nat)) = cs at hcs hret ⊢
  unfold fX10_promotes at h
  show sW X 5 cs σ 0 [some (.ref (sad X 123)), some (.int l1), none, none, none] []
  refine s_iconst 0 hX dX10_promotes_0 (by decide) ?_
  refine s_istore_n hX dX10_promotes_1 (by decide) ?_
  obtain ⟨σ1, hc, h⟩ := bn_some h
  refine s_mask [true, true, true, false, false] ?_
  refine pX10_promotes_2 hX hcs _ _ _ _ hc ?_
  obtain rfl := rt1 h
  exact hret _ _ dX10_promotes_151
def gX10_promotesAll_11  (rec : Mm × Int32 → Option (Mm)) (σ : Mm) (x1 : Int32) : Option (Mm) :=
  if 96 ≤ x1 then
  some σ
else
  gd x1 96 <|
  bd (upm σ 142 (upd (σ 142) x1.toNatClampNeg (-1))) fun σ2 =>
  bd (x1 + 1) fun v3 =>
  rec (σ2, v3)
def qX10_promotesAll_11  : Nat → Mm × Int32 → Option (Mm) := lp (fun rec s => gX10_promotesAll_11  rec s.1 s.2)
def gX10_promotesAll_47 (σ : Mm) (l1 : Int32) (l2 : Int32) (rec : Int32 × Int32 → Option (Int32)) (x3 : Int32) (x4 : Int32) : Option (Int32) :=
  if (σ 123 17) ≤ x4 then
  some x3
else
  (fX10_has σ l1 x4).bind fun r1 =>
  if r1 = 0 then
  if x3 < 0 then
  bd (x4 + 1) fun v3 =>
  rec (x4, v3)
else
  gd x4 8 <|
  gd (σ 137 x4.toNatClampNeg) 8 <|
  gd x3 8 <|
  gd (σ 137 x3.toNatClampNeg) 8 <|
  if (σ 129 (σ 137 x4.toNatClampNeg).toNatClampNeg) ≤ (σ 129 (σ 137 x3.toNatClampNeg).toNatClampNeg) then
  bd (x4 + 1) fun v8 =>
  rec (x3, v8)
else
  bd (x4 + 1) fun v9 =>
  rec (x4, v9)
else
  bd (x4 + 1) fun v2 =>
  rec (x3, v2)
def qX10_promotesAll_47 (σ : Mm) (l1 : Int32) (l2 : Int32) : Nat → Int32 × Int32 → Option (Int32) := lp (fun rec s => gX10_promotesAll_47 σ l1 l2 rec s.1 s.2)
def gX10_promotesAll_34  (rec : Mm × Int32 × Int32 → Option (Mm)) (σ : Mm) (x1 : Int32) (x2 : Int32) : Option (Mm) :=
  if (σ 123 17) ≤ x2 then
  some σ
else
  (qX10_promotesAll_47 σ x1 x2 FU ((-1), 0)).bind fun v1 =>
  bd (x1 ||| (1 <<< (v1 &&& 31))) fun v2 =>
  (fX10_promotes σ v1).bind fun σ3 =>
  bd (x2 + 1) fun v4 =>
  rec (σ3, v2, v4)
def qX10_promotesAll_34  : Nat → Mm × Int32 × Int32 → Option (Mm) := lp (fun rec s => gX10_promotesAll_34  rec s.1 s.2.1 s.2.2)
def fX10_promotesAll (σ : Mm) : Option Mm :=
  (fX10_layLoops σ).bind fun σ1 =>
  bd (upm σ1 123 (upd (σ1 123) 22 0)) fun σ2 =>
  (qX10_promotesAll_11  FU (σ2, 0)).bind fun σ3 =>
  (qX10_promotesAll_34  FU (σ3, 0, 0)).bind fun σ4 =>
  some σ4
set_option maxHeartbeats 4000000 in
theorem pX10_promotesAll_11 {X : sT} {cs : Nat × Nat} (hX : sX X cX10_promotesAll RX10 5 5 119) (hcs : cs.1 ≤ (sR X).cells ∧ cs.2 ≤ (sR X).slots)   : ∀ (n : Nat) (s : Mm × Int32) (r : Mm), qX10_promotesAll_11  n s = some r → sW X 5 cs r 30 [some (.ref (sad X 123)), none, none, none, none] [] → sW X 5 cs s.1 11 [some (.ref (sad X 123)), some (.int s.2), none, none, none] [] := by
  refine lp_ind (P := fun (s : Mm × Int32) (r : Mm) => sW X 5 cs r 30 [some (.ref (sad X 123)), none, none, none, none] [] → sW X 5 cs s.1 11 [some (.ref (sad X 123)), some (.int s.2), none, none, none] []) ?_
  intro rec hrec s r h0 hk
  obtain ⟨σ, x1⟩ := s
  have h : gX10_promotesAll_11  rec σ x1 = some r := h0
  unfold gX10_promotesAll_11 at h
  show sW X 5 cs σ 11 [some (.ref (sad X 123)), some (.int x1), none, none, none] []
  refine s_iload_n hX dX10_promotesAll_11 rfl ?_
  refine s_bipush 96 hX dX10_promotesAll_12 (by decide) ?_
  refine s_ic_ge (tgt := 30) hX dX10_promotesAll_14 (by decide) (fun c4 => ?_) (fun c4 => ?_)
  · replace h := (if_pos c4).symm.trans h
    obtain rfl := rt1 h
    refine s_mask [true, false, false, false, false] ?_
    exact hk
  · replace h := (if_neg c4).symm.trans h
    refine s_aload_n hX dX10_promotesAll_17 rfl ?_
    refine s_getR (r := 142) hX fo_RX10_94_9 SH_123 rfl dX10_promotesAll_18 ?_
    refine s_iload_n hX dX10_promotesAll_21 rfl ?_
    refine s_iconst (-1) hX dX10_promotesAll_22 (by decide) ?_
    obtain ⟨c1, h⟩ := gd_some h
    obtain ⟨σ2, eσ2, h⟩ := bd_some h
    refine s_iast hX SH_142 c1 dX10_promotesAll_23 ?_
    refine s_mem σ2 eσ2 ?_
    obtain ⟨v3, ev3, h⟩ := bd_some h
    refine s_iinc v3 hX dX10_promotesAll_24 rfl (by rw [ev3]; rfl) (by decide) ?_
    refine s_goto (tgt := 11) hX dX10_promotesAll_27 (by decide) ?_
    refine s_mask [true, true, false, false, false] ?_
    exact hrec _ _ h hk
set_option maxHeartbeats 4000000 in
theorem pX10_promotesAll_47 {X : sT} {cs : Nat × Nat} (hX : sX X cX10_promotesAll RX10 5 5 119) (hcs : cs.1 ≤ (sR X).cells ∧ cs.2 ≤ (sR X).slots) (σ : Mm) (l1 : Int32) (l2 : Int32)  : ∀ (n : Nat) (s : Int32 × Int32) (r : Int32), qX10_promotesAll_47 σ l1 l2 n s = some r → sW X 5 cs σ 104 [some (.ref (sad X 123)), some (.int l1), some (.int l2), some (.int r), none] [] → sW X 5 cs σ 47 [some (.ref (sad X 123)), some (.int l1), some (.int l2), some (.int s.1), some (.int s.2)] [] := by
  refine lp_ind (P := fun (s : Int32 × Int32) (r : Int32) => sW X 5 cs σ 104 [some (.ref (sad X 123)), some (.int l1), some (.int l2), some (.int r), none] [] → sW X 5 cs σ 47 [some (.ref (sad X 123)), some (.int l1), some (.int l2), some (.int s.1), some (.int s.2)] []) ?_
  intro rec hrec s r h0 hk
  obtain ⟨x3, x4⟩ := s
  have h : gX10_promotesAll_47 σ l1 l2 rec x3 x4 = some r := h0
  unfold gX10_promotesAll_47 at h
  show sW X 5 cs σ 47 [some (.ref (sad X 123)), some (.int l1), some (.int l2), some (.int x3), some (.int x4)] []
  refine s_iload hX dX10_promotesAll_47 rfl ?_
  refine s_aload_n hX dX10_promotesAll_49 rfl ?_
  refine s_getI hX fo_RX10_67_9 SH_123 rfl dX10_promotesAll_50 ?_
  refine s_ic_ge (tgt := 104) hX dX10_promotesAll_53 (by decide) (fun c13 => ?_) (fun c13 => ?_)
  · replace h := (if_pos c13).symm.trans h
    obtain rfl := rt1 h
    refine s_mask [true, true, true, true, false] ?_
    exact hk
  · replace h := (if_neg c13).symm.trans h
    refine s_iload_n hX dX10_promotesAll_56 rfl ?_
    refine s_iload hX dX10_promotesAll_57 rfl ?_
    obtain ⟨r1, hc, h⟩ := bn_some h
    refine s_callSI _ hX (cX10_has_ok (sl X)  hc) ms_RX10_255 (fun _ => rfl) (by decide) (Nat.le_of_ble_eq_true rfl) hcs dX10_promotesAll_59 rfl ?_
    refine s_if_ne (tgt := 98) hX dX10_promotesAll_62 (by decide) (fun c12 => ?_) (fun c12 => ?_)
    · replace h := (if_neg c12).symm.trans h
      obtain ⟨v2, ev2, h⟩ := bd_some h
      refine s_iinc v2 hX dX10_promotesAll_98 rfl (by rw [ev2]; rfl) (by decide) ?_
      refine s_goto (tgt := 47) hX dX10_promotesAll_101 (by decide) ?_
      refine s_mask [true, true, true, true, true] ?_
      exact hrec _ _ h hk
    · replace h := (if_pos c12).symm.trans h
      refine s_iload_n hX dX10_promotesAll_65 rfl ?_
      refine s_if_lt (tgt := 95) hX dX10_promotesAll_66 (by decide) (fun c11 => ?_) (fun c11 => ?_)
      · replace h := (if_pos c11).symm.trans h
        refine s_iload hX dX10_promotesAll_95 rfl ?_
        refine s_istore_n hX dX10_promotesAll_97 (by decide) ?_
        obtain ⟨v3, ev3, h⟩ := bd_some h
        refine s_iinc v3 hX dX10_promotesAll_98 rfl (by rw [ev3]; rfl) (by decide) ?_
        refine s_goto (tgt := 47) hX dX10_promotesAll_101 (by decide) ?_
        refine s_mask [true, true, true, true, true] ?_
        exact hrec _ _ h hk
      · replace h := (if_neg c11).symm.trans h
        refine s_aload_n hX dX10_promotesAll_69 rfl ?_
        refine s_getR (r := 129) hX fo_RX10_39_9 SH_123 rfl dX10_promotesAll_70 ?_
        refine s_aload_n hX dX10_promotesAll_73 rfl ?_
        refine s_getR (r := 137) hX fo_RX10_70_9 SH_123 rfl dX10_promotesAll_74 ?_
        refine s_iload hX dX10_promotesAll_77 rfl ?_
        obtain ⟨c4, h⟩ := gd_some h
        refine s_iald hX SH_137 c4 dX10_promotesAll_79 ?_
        obtain ⟨c5, h⟩ := gd_some h
        refine s_iald hX SH_129 c5 dX10_promotesAll_80 ?_
        refine s_aload_n hX dX10_promotesAll_81 rfl ?_
        refine s_getR (r := 129) hX fo_RX10_39_9 SH_123 rfl dX10_promotesAll_82 ?_
        refine s_aload_n hX dX10_promotesAll_85 rfl ?_
        refine s_getR (r := 137) hX fo_RX10_70_9 SH_123 rfl dX10_promotesAll_86 ?_
        refine s_iload_n hX dX10_promotesAll_89 rfl ?_
        obtain ⟨c6, h⟩ := gd_some h
        refine s_iald hX SH_137 c6 dX10_promotesAll_90 ?_
        obtain ⟨c7, h⟩ := gd_some h
        refine s_iald hX SH_129 c7 dX10_promotesAll_91 ?_
        refine s_ic_le (tgt := 98) hX dX10_promotesAll_92 (by decide) (fun c10 => ?_) (fun c10 => ?_)
        · replace h := (if_pos c10).symm.trans h
          obtain ⟨v8, ev8, h⟩ := bd_some h
          refine s_iinc v8 hX dX10_promotesAll_98 rfl (by rw [ev8]; rfl) (by decide) ?_
          refine s_goto (tgt := 47) hX dX10_promotesAll_101 (by decide) ?_
          refine s_mask [true, true, true, true, true] ?_
          exact hrec _ _ h hk
        · replace h := (if_neg c10).symm.trans h
          refine s_iload hX dX10_promotesAll_95 rfl ?_
          refine s_istore_n hX dX10_promotesAll_97 (by decide) ?_
          obtain ⟨v9, ev9, h⟩ := bd_some h
          refine s_iinc v9 hX dX10_promotesAll_98 rfl (by rw [ev9]; rfl) (by decide) ?_
          refine s_goto (tgt := 47) hX dX10_promotesAll_101 (by decide) ?_
          refine s_mask [true, true, true, true, true] ?_
          exact hrec _ _ h hk
set_option maxHeartbeats 4000000 in
theorem pX10_promotesAll_34 {X : sT} {cs : Nat × Nat} (hX : sX X cX10_promotesAll RX10 5 5 119) (hcs : cs.1 ≤ (sR X).cells ∧ cs.2 ≤ (sR X).slots)   : ∀ (n : Nat) (s : Mm × Int32 × Int32) (r : Mm), qX10_promotesAll_34  n s = some r → sW X 5 cs r 121 [none, none, none, none, none] [] → sW X 5 cs s.1 34 [some (.ref (sad X 123)), some (.int s.2.1), some (.int s.2.2), none, none] [] := by
  refine lp_ind (P := fun (s : Mm × Int32 × Int32) (r : Mm) => sW X 5 cs r 121 [none, none, none, none, none] [] → sW X 5 cs s.1 34 [some (.ref (sad X 123)), some (.int s.2.1), some (.int s.2.2), none, none] []) ?_
  intro rec hrec s r h0 hk
  obtain ⟨σ, x1, x2⟩ := s
  have h : gX10_promotesAll_34  rec σ x1 x2 = some r := h0
  unfold gX10_promotesAll_34 at h
  show sW X 5 cs σ 34 [some (.ref (sad X 123)), some (.int x1), some (.int x2), none, none] []
  refine s_iload_n hX dX10_promotesAll_34 rfl ?_
  refine s_aload_n hX dX10_promotesAll_35 rfl ?_
  refine s_getI hX fo_RX10_67_9 SH_123 rfl dX10_promotesAll_36 ?_
  refine s_ic_ge (tgt := 121) hX dX10_promotesAll_39 (by decide) (fun c5 => ?_) (fun c5 => ?_)
  · replace h := (if_pos c5).symm.trans h
    obtain rfl := rt1 h
    refine s_mask [false, false, false, false, false] ?_
    exact hk
  · replace h := (if_neg c5).symm.trans h
    refine s_iconst (-1) hX dX10_promotesAll_42 (by decide) ?_
    refine s_istore_n hX dX10_promotesAll_43 (by decide) ?_
    refine s_iconst 0 hX dX10_promotesAll_44 (by decide) ?_
    refine s_istore hX dX10_promotesAll_45 (by decide) ?_
    obtain ⟨v1, hc, h⟩ := bn_some h
    refine s_mask [true, true, true, true, true] ?_
    refine pX10_promotesAll_47 hX hcs _ _ _ _ _ _ hc ?_
    refine s_iload_n hX dX10_promotesAll_104 rfl ?_
    refine s_iconst 1 hX dX10_promotesAll_105 (by decide) ?_
    refine s_iload_n hX dX10_promotesAll_106 rfl ?_
    refine s_ishl hX dX10_promotesAll_107 ?_
    refine s_ior hX dX10_promotesAll_108 ?_
    obtain ⟨v2, ev2, h⟩ := bd_some h
    refine s_topi v2 ev2 ?_
    refine s_istore_n hX dX10_promotesAll_109 (by decide) ?_
    refine s_aload_n hX dX10_promotesAll_110 rfl ?_
    refine s_iload_n hX dX10_promotesAll_111 rfl ?_
    obtain ⟨σ3, hc, h⟩ := bn_some h
    refine s_callVV _ hX (cX10_promotes_ok (sl X)  hc) SH_123 mv_RX10_321_9 (fun _ => rfl) (by decide) (Nat.le_of_ble_eq_true rfl) hcs dX10_promotesAll_112 rfl ?_
    obtain ⟨v4, ev4, h⟩ := bd_some h
    refine s_iinc v4 hX dX10_promotesAll_115 rfl (by rw [ev4]; rfl) (by decide) ?_
    refine s_goto (tgt := 34) hX dX10_promotesAll_118 (by decide) ?_
    refine s_mask [true, true, true, false, false] ?_
    exact hrec _ _ h hk
set_option maxHeartbeats 4000000 in
theorem cX10_promotesAll_ok (l : Launch) {σ : Mm} {σ' : Mm}  (h : fX10_promotesAll σ = some σ') : cV l yX10_promotesAll cX10_promotesAll 5 5 119 (fun ad => [.ref (ad 123)]) σ σ' := by
  refine c_enterV (fun ad => [some (.ref (ad 123)), none, none, none, none]) (by decide) (fun ad => ⟨by simp [Value.category], Nat.le_of_ble_eq_true rfl⟩) (fun ad => ⟨4, rfl⟩) ?_
  intro X _ hX hret
  have hcs : ((0 : Nat), (0 : Nat)).1 ≤ (sR X).cells ∧ ((0 : Nat), (0 : Nat)).2 ≤ (sR X).slots := ⟨Nat.zero_le _, Nat.zero_le _⟩
  generalize hcs0 : ((0 : Nat), (0 : Nat)) = cs at hcs hret ⊢
  unfold fX10_promotesAll at h
  show sW X 5 cs σ 0 [some (.ref (sad X 123)), none, none, none, none] []
  refine s_aload_n hX dX10_promotesAll_0 rfl ?_
  obtain ⟨σ1, hc, h⟩ := bn_some h
  refine s_callVV _ hX (cX10_layLoops_ok (sl X)  hc) SH_123 mv_RX10_276_9 (fun _ => rfl) (by decide) (Nat.le_of_ble_eq_true rfl) hcs dX10_promotesAll_1 rfl ?_
  refine s_aload_n hX dX10_promotesAll_4 rfl ?_
  refine s_iconst 0 hX dX10_promotesAll_5 (by decide) ?_
  obtain ⟨σ2, eσ2, h⟩ := bd_some h
  refine s_putI hX fo_RX10_82_9 SH_123 rfl dX10_promotesAll_6 ?_
  refine s_mem σ2 eσ2 ?_
  refine s_iconst 0 hX dX10_promotesAll_9 (by decide) ?_
  refine s_istore_n hX dX10_promotesAll_10 (by decide) ?_
  obtain ⟨σ3, hc, h⟩ := bn_some h
  refine s_mask [true, true, false, false, false] ?_
  refine pX10_promotesAll_11 hX hcs  _ _ _ hc ?_
  refine s_iconst 0 hX dX10_promotesAll_30 (by decide) ?_
  refine s_istore_n hX dX10_promotesAll_31 (by decide) ?_
  refine s_iconst 0 hX dX10_promotesAll_32 (by decide) ?_
  refine s_istore_n hX dX10_promotesAll_33 (by decide) ?_
  obtain ⟨σ4, hc, h⟩ := bn_some h
  refine s_mask [true, true, true, false, false] ?_
  refine pX10_promotesAll_34 hX hcs  _ _ _ hc ?_
  obtain rfl := rt1 h
  exact hret _ _ dX10_promotesAll_121
def gX10_homes_4 (σ : Mm) (l1 : Int32) (rec : Int32 × Int32 → Option (Int32)) (x2 : Int32) (x3 : Int32) : Option (Int32) :=
  if 12 ≤ x3 then
  some x2
else
  gd x3 12 <|
  if (σ 139 x3.toNatClampNeg) = l1 then
  bd (x2 + 1) fun v4 =>
  bd (x3 + 1) fun v5 =>
  rec (v4, v5)
else
  bd (x2 + 0) fun v2 =>
  bd (x3 + 1) fun v3 =>
  rec (v2, v3)
def qX10_homes_4 (σ : Mm) (l1 : Int32) : Nat → Int32 × Int32 → Option (Int32) := lp (fun rec s => gX10_homes_4 σ l1 rec s.1 s.2)
def fX10_homes (σ : Mm) (l1 : Int32) : Option Int32 :=
  (qX10_homes_4 σ l1 FU (0, 0)).bind fun v1 =>
  some v1
set_option maxHeartbeats 4000000 in
theorem pX10_homes_4 {X : sT} {cs : Nat × Nat} (hX : sX X cX10_homes RX10 4 0 0) (hcs : cs.1 ≤ (sR X).cells ∧ cs.2 ≤ (sR X).slots) (σ : Mm) (l1 : Int32)  : ∀ (n : Nat) (s : Int32 × Int32) (r : Int32), qX10_homes_4 σ l1 n s = some r → sW X 4 cs σ 34 [none, none, some (.int r), none] [] → sW X 4 cs σ 4 [some (.ref (sad X 123)), some (.int l1), some (.int s.1), some (.int s.2)] [] := by
  refine lp_ind (P := fun (s : Int32 × Int32) (r : Int32) => sW X 4 cs σ 34 [none, none, some (.int r), none] [] → sW X 4 cs σ 4 [some (.ref (sad X 123)), some (.int l1), some (.int s.1), some (.int s.2)] []) ?_
  intro rec hrec s r h0 hk
  obtain ⟨x2, x3⟩ := s
  have h : gX10_homes_4 σ l1 rec x2 x3 = some r := h0
  unfold gX10_homes_4 at h
  show sW X 4 cs σ 4 [some (.ref (sad X 123)), some (.int l1), some (.int x2), some (.int x3)] []
  refine s_iload_n hX dX10_homes_4 rfl ?_
  refine s_bipush 12 hX dX10_homes_5 (by decide) ?_
  refine s_ic_ge (tgt := 34) hX dX10_homes_7 (by decide) (fun c7 => ?_) (fun c7 => ?_)
  · replace h := (if_pos c7).symm.trans h
    obtain rfl := rt1 h
    refine s_mask [false, false, true, false] ?_
    exact hk
  · replace h := (if_neg c7).symm.trans h
    refine s_iload_n hX dX10_homes_10 rfl ?_
    refine s_aload_n hX dX10_homes_11 rfl ?_
    refine s_getR (r := 139) hX fo_RX10_85_9 SH_123 rfl dX10_homes_12 ?_
    refine s_iload_n hX dX10_homes_15 rfl ?_
    obtain ⟨c1, h⟩ := gd_some h
    refine s_iald hX SH_139 c1 dX10_homes_16 ?_
    refine s_iload_n hX dX10_homes_17 rfl ?_
    refine s_ic_ne (tgt := 25) hX dX10_homes_18 (by decide) (fun c6 => ?_) (fun c6 => ?_)
    · replace h := (if_neg c6).symm.trans h
      refine s_iconst 0 hX dX10_homes_25 (by decide) ?_
      refine s_iadd hX dX10_homes_26 ?_
      obtain ⟨v2, ev2, h⟩ := bd_some h
      refine s_topi v2 ev2 ?_
      refine s_istore_n hX dX10_homes_27 (by decide) ?_
      obtain ⟨v3, ev3, h⟩ := bd_some h
      refine s_iinc v3 hX dX10_homes_28 rfl (by rw [ev3]; rfl) (by decide) ?_
      refine s_goto (tgt := 4) hX dX10_homes_31 (by decide) ?_
      refine s_mask [true, true, true, true] ?_
      exact hrec _ _ h hk
    · replace h := (if_pos c6).symm.trans h
      refine s_iconst 1 hX dX10_homes_21 (by decide) ?_
      refine s_goto (tgt := 26) hX dX10_homes_22 (by decide) ?_
      refine s_iadd hX dX10_homes_26 ?_
      obtain ⟨v4, ev4, h⟩ := bd_some h
      refine s_topi v4 ev4 ?_
      refine s_istore_n hX dX10_homes_27 (by decide) ?_
      obtain ⟨v5, ev5, h⟩ := bd_some h
      refine s_iinc v5 hX dX10_homes_28 rfl (by rw [ev5]; rfl) (by decide) ?_
      refine s_goto (tgt := 4) hX dX10_homes_31 (by decide) ?_
      refine s_mask [true, true, true, true] ?_
      exact hrec _ _ h hk
set_option maxHeartbeats 4000000 in
theorem cX10_homes_ok (l : Launch) {σ : Mm} {l1 : Int32} {r : Int32}  (h : fX10_homes σ l1 = some r) : cI l yX10_homes cX10_homes 4 .int 0 0 (fun ad => [.ref (ad 123), .int l1]) σ r σ := by
  refine c_enterI (fun ad => [some (.ref (ad 123)), some (.int l1), none, none]) (by decide) (fun ad => ⟨by simp [Value.category], Nat.le_of_ble_eq_true rfl⟩) (fun ad => ⟨2, rfl⟩) ?_
  intro X _ hX hret
  have hcs : ((0 : Nat), (0 : Nat)).1 ≤ (sR X).cells ∧ ((0 : Nat), (0 : Nat)).2 ≤ (sR X).slots := ⟨Nat.zero_le _, Nat.zero_le _⟩
  generalize hcs0 : ((0 : Nat), (0 : Nat)) = cs at hcs hret ⊢
  unfold fX10_homes at h
  show sW X 4 cs σ 0 [some (.ref (sad X 123)), some (.int l1), none, none] []
  refine s_iconst 0 hX dX10_homes_0 (by decide) ?_
  refine s_istore_n hX dX10_homes_1 (by decide) ?_
  refine s_iconst 0 hX dX10_homes_2 (by decide) ?_
  refine s_istore_n hX dX10_homes_3 (by decide) ?_
  obtain ⟨v1, hc, h⟩ := bn_some h
  refine s_mask [true, true, true, true] ?_
  refine pX10_homes_4 hX hcs _ _ _ _ _ hc ?_
  refine s_iload_n hX dX10_homes_34 rfl ?_
  obtain rfl := rt1 h
  exact hret _ _ (nzi _) dX10_homes_35
def gX10_plan_30 (l1 : Int32) (l2 : Int32) (rec : Mm → Option (Mm)) (σ : Mm) : Option (Mm) :=
  bn2 (fX10_colours σ) fun r1 σ2 =>
  if r1 ≤ l1 then
  some σ2
else
  (fX10_putsOut σ2 l2).bind fun σ3 =>
  rec σ3
def qX10_plan_30 (l1 : Int32) (l2 : Int32) : Nat → Mm → Option (Mm) := lp (fun rec s => gX10_plan_30 l1 l2 rec s)
def gX10_plan_53  (rec : Mm × Int32 → Option (Mm)) (σ : Mm) (x3 : Int32) : Option (Mm) :=
  if 12 ≤ x3 then
  some σ
else
  gd x3 12 <|
  if (σ 139 x3.toNatClampNeg) = 1 then
  (fX10_lowest σ x3 1 141 12).bind fun r2 =>
  gd x3 12 <|
  bd (upm σ 141 (upd (σ 141) x3.toNatClampNeg r2)) fun σ4 =>
  gd x3 12 <|
  bd (upm σ4 123 (upd (σ4 123) 21 (mx (σ4 123 21) ((σ4 141 x3.toNatClampNeg) + 1)))) fun σ6 =>
  bd (x3 + 1) fun v7 =>
  rec (σ6, v7)
else
  bd (x3 + 1) fun v8 =>
  rec (σ, v8)
def qX10_plan_53  : Nat → Mm × Int32 → Option (Mm) := lp (fun rec s => gX10_plan_53  rec s.1 s.2)
def fX10_plan (σ : Mm) (l1 : Int32) (l2 : Int32) : Option (Int32 × Mm) :=
  bd (upm σ 123 (upd (σ 123) 0 0)) fun σ1 =>
  (fX10_in σ1 l1 1 12).bind fun r2 =>
  if r2 = 0 then
  bn2 (fX10_fails σ1 1) fun r11 σ12 =>
  some (r11, σ12)
else
  bd (upm σ1 123 (upd (σ1 123) 20 l1)) fun σ3 =>
  (fX10_begins σ3).bind fun σ4 =>
  (qX10_plan_30 l1 l2 FU σ4).bind fun σ5 =>
  bd (upm σ5 123 (upd (σ5 123) 21 0)) fun σ6 =>
  (qX10_plan_53  FU (σ6, 0)).bind fun σ7 =>
  (fX10_promotesAll σ7).bind fun σ8 =>
  bd (upm σ8 123 (upd (σ8 123) 14 1)) fun σ9 =>
  (fX10_homes σ9 1).bind fun r10 =>
  some (r10, σ9)
set_option maxHeartbeats 4000000 in
theorem pX10_plan_30 {X : sT} {cs : Nat × Nat} (hX : sX X cX10_plan RX10 4 6 143) (hcs : cs.1 ≤ (sR X).cells ∧ cs.2 ≤ (sR X).slots) (l1 : Int32) (l2 : Int32)  : ∀ (n : Nat) (s : Mm) (r : Mm), qX10_plan_30 l1 l2 n s = some r → sW X 4 cs r 46 [some (.ref (sad X 123)), none, none, none] [] → sW X 4 cs s 30 [some (.ref (sad X 123)), some (.int l1), some (.int l2), none] [] := by
  refine lp_ind (P := fun (s : Mm) (r : Mm) => sW X 4 cs r 46 [some (.ref (sad X 123)), none, none, none] [] → sW X 4 cs s 30 [some (.ref (sad X 123)), some (.int l1), some (.int l2), none] []) ?_
  intro rec hrec s r h0 hk
  obtain ⟨σ, e0⟩ : ∃ z, z = s := ⟨s, rfl⟩
  subst e0
  have h : gX10_plan_30 l1 l2 rec σ = some r := h0
  unfold gX10_plan_30 at h
  show sW X 4 cs σ 30 [some (.ref (sad X 123)), some (.int l1), some (.int l2), none] []
  refine s_aload_n hX dX10_plan_30 rfl ?_
  obtain ⟨r1, σ2, hc, h⟩ := bn2_some h
  refine s_callVI _ hX (cX10_colours_ok (sl X)  hc) SH_123 mv_RX10_328_9 (fun _ => rfl) (by decide) (Nat.le_of_ble_eq_true rfl) hcs dX10_plan_31 rfl ?_
  refine s_iload_n hX dX10_plan_34 rfl ?_
  refine s_ic_le (tgt := 46) hX dX10_plan_35 (by decide) (fun c4 => ?_) (fun c4 => ?_)
  · replace h := (if_pos c4).symm.trans h
    obtain rfl := rt1 h
    refine s_mask [true, false, false, false] ?_
    exact hk
  · replace h := (if_neg c4).symm.trans h
    refine s_aload_n hX dX10_plan_38 rfl ?_
    refine s_iload_n hX dX10_plan_39 rfl ?_
    obtain ⟨σ3, hc, h⟩ := bn_some h
    refine s_callVV _ hX (cX10_putsOut_ok (sl X)  hc) SH_123 mv_RX10_331_9 (fun _ => rfl) (by decide) (Nat.le_of_ble_eq_true rfl) hcs dX10_plan_40 rfl ?_
    refine s_goto (tgt := 30) hX dX10_plan_43 (by decide) ?_
    refine s_mask [true, true, true, false] ?_
    exact hrec _ _ h hk
set_option maxHeartbeats 4000000 in
theorem pX10_plan_53 {X : sT} {cs : Nat × Nat} (hX : sX X cX10_plan RX10 4 6 143) (hcs : cs.1 ≤ (sR X).cells ∧ cs.2 ≤ (sR X).slots)   : ∀ (n : Nat) (s : Mm × Int32) (r : Mm), qX10_plan_53  n s = some r → sW X 4 cs r 113 [some (.ref (sad X 123)), none, none, none] [] → sW X 4 cs s.1 53 [some (.ref (sad X 123)), none, none, some (.int s.2)] [] := by
  refine lp_ind (P := fun (s : Mm × Int32) (r : Mm) => sW X 4 cs r 113 [some (.ref (sad X 123)), none, none, none] [] → sW X 4 cs s.1 53 [some (.ref (sad X 123)), none, none, some (.int s.2)] []) ?_
  intro rec hrec s r h0 hk
  obtain ⟨σ, x3⟩ := s
  have h : gX10_plan_53  rec σ x3 = some r := h0
  unfold gX10_plan_53 at h
  show sW X 4 cs σ 53 [some (.ref (sad X 123)), none, none, some (.int x3)] []
  refine s_iload_n hX dX10_plan_53 rfl ?_
  refine s_bipush 12 hX dX10_plan_54 (by decide) ?_
  refine s_ic_ge (tgt := 113) hX dX10_plan_56 (by decide) (fun c10 => ?_) (fun c10 => ?_)
  · replace h := (if_pos c10).symm.trans h
    obtain rfl := rt1 h
    refine s_mask [true, false, false, false] ?_
    exact hk
  · replace h := (if_neg c10).symm.trans h
    refine s_aload_n hX dX10_plan_59 rfl ?_
    refine s_getR (r := 139) hX fo_RX10_85_9 SH_123 rfl dX10_plan_60 ?_
    refine s_iload_n hX dX10_plan_63 rfl ?_
    obtain ⟨c1, h⟩ := gd_some h
    refine s_iald hX SH_139 c1 dX10_plan_64 ?_
    refine s_iconst 1 hX dX10_plan_65 (by decide) ?_
    refine s_ic_eq (tgt := 72) hX dX10_plan_66 (by decide) (fun c9 => ?_) (fun c9 => ?_)
    · replace h := (if_pos c9).symm.trans h
      refine s_aload_n hX dX10_plan_72 rfl ?_
      refine s_getR (r := 141) hX fo_RX10_91_9 SH_123 rfl dX10_plan_73 ?_
      refine s_iload_n hX dX10_plan_76 rfl ?_
      refine s_aload_n hX dX10_plan_77 rfl ?_
      refine s_iload_n hX dX10_plan_78 rfl ?_
      refine s_iconst 1 hX dX10_plan_79 (by decide) ?_
      refine s_aload_n hX dX10_plan_80 rfl ?_
      refine s_getR (r := 141) hX fo_RX10_91_9 SH_123 rfl dX10_plan_81 ?_
      obtain ⟨r2, hc, h⟩ := bn_some h
      refine s_callVI _ hX (cX10_lowest_ok (sl X) SH_141 hc) SH_123 mv_RX10_298_9 (fun _ => rfl) (by decide) (Nat.le_of_ble_eq_true rfl) hcs dX10_plan_84 rfl ?_
      obtain ⟨c3, h⟩ := gd_some h
      obtain ⟨σ4, eσ4, h⟩ := bd_some h
      refine s_iast hX SH_141 c3 dX10_plan_87 ?_
      refine s_mem σ4 eσ4 ?_
      refine s_aload_n hX dX10_plan_88 rfl ?_
      refine s_aload_n hX dX10_plan_89 rfl ?_
      refine s_getI hX fo_RX10_79_9 SH_123 rfl dX10_plan_90 ?_
      refine s_aload_n hX dX10_plan_93 rfl ?_
      refine s_getR (r := 141) hX fo_RX10_91_9 SH_123 rfl dX10_plan_94 ?_
      refine s_iload_n hX dX10_plan_97 rfl ?_
      obtain ⟨c5, h⟩ := gd_some h
      refine s_iald hX SH_141 c5 dX10_plan_98 ?_
      refine s_iconst 1 hX dX10_plan_99 (by decide) ?_
      refine s_iadd hX dX10_plan_100 ?_
      refine s_max hX w7_169 (by decide) (Nat.le_of_ble_eq_true rfl) hcs dX10_plan_101 ?_
      obtain ⟨σ6, eσ6, h⟩ := bd_some h
      refine s_putI hX fo_RX10_79_9 SH_123 rfl dX10_plan_104 ?_
      refine s_mem σ6 eσ6 ?_
      obtain ⟨v7, ev7, h⟩ := bd_some h
      refine s_iinc v7 hX dX10_plan_107 rfl (by rw [ev7]; rfl) (by decide) ?_
      refine s_goto (tgt := 53) hX dX10_plan_110 (by decide) ?_
      refine s_mask [true, false, false, true] ?_
      exact hrec _ _ h hk
    · replace h := (if_neg c9).symm.trans h
      refine s_goto (tgt := 107) hX dX10_plan_69 (by decide) ?_
      obtain ⟨v8, ev8, h⟩ := bd_some h
      refine s_iinc v8 hX dX10_plan_107 rfl (by rw [ev8]; rfl) (by decide) ?_
      refine s_goto (tgt := 53) hX dX10_plan_110 (by decide) ?_
      refine s_mask [true, false, false, true] ?_
      exact hrec _ _ h hk
set_option maxHeartbeats 4000000 in
theorem cX10_plan_ok (l : Launch) {σ : Mm} {l1 : Int32} {l2 : Int32} {r : Int32} {σ' : Mm}  (h : fX10_plan σ l1 l2 = some (r, σ')) : cI l yX10_plan cX10_plan 4 .int 6 143 (fun ad => [.ref (ad 123), .int l1, .int l2]) σ r σ' := by
  refine c_enterI (fun ad => [some (.ref (ad 123)), some (.int l1), some (.int l2), none]) (by decide) (fun ad => ⟨by simp [Value.category], Nat.le_of_ble_eq_true rfl⟩) (fun ad => ⟨1, rfl⟩) ?_
  intro X _ hX hret
  have hcs : ((0 : Nat), (0 : Nat)).1 ≤ (sR X).cells ∧ ((0 : Nat), (0 : Nat)).2 ≤ (sR X).slots := ⟨Nat.zero_le _, Nat.zero_le _⟩
  generalize hcs0 : ((0 : Nat), (0 : Nat)) = cs at hcs hret ⊢
  unfold fX10_plan at h
  show sW X 4 cs σ 0 [some (.ref (sad X 123)), some (.int l1), some (.int l2), none] []
  refine s_aload_n hX dX10_plan_0 rfl ?_
  refine s_iconst 0 hX dX10_plan_1 (by decide) ?_
  obtain ⟨σ1, eσ1, h⟩ := bd_some h
  refine s_putI hX fo_RX10_1_9 SH_123 rfl dX10_plan_2 ?_
  refine s_mem σ1 eσ1 ?_
  refine s_iload_n hX dX10_plan_5 rfl ?_
  refine s_iconst 1 hX dX10_plan_6 (by decide) ?_
  refine s_bipush 12 hX dX10_plan_7 (by decide) ?_
  obtain ⟨r2, hc, h⟩ := bn_some h
  refine s_callSI _ hX (cX10_in_ok (sl X)  hc) ms_RX10_7 (fun _ => rfl) (by decide) (Nat.le_of_ble_eq_true rfl) hcs dX10_plan_9 rfl ?_
  refine s_if_ne (tgt := 21) hX dX10_plan_12 (by decide) (fun c13 => ?_) (fun c13 => ?_)
  · replace h := (if_neg c13).symm.trans h
    refine s_aload_n hX dX10_plan_21 rfl ?_
    refine s_iload_n hX dX10_plan_22 rfl ?_
    obtain ⟨σ3, eσ3, h⟩ := bd_some h
    refine s_putI hX fo_RX10_76_9 SH_123 rfl dX10_plan_23 ?_
    refine s_mem σ3 eσ3 ?_
    refine s_aload_n hX dX10_plan_26 rfl ?_
    obtain ⟨σ4, hc, h⟩ := bn_some h
    refine s_callVV _ hX (cX10_begins_ok (sl X)  hc) SH_123 mv_RX10_325_9 (fun _ => rfl) (by decide) (Nat.le_of_ble_eq_true rfl) hcs dX10_plan_27 rfl ?_
    obtain ⟨σ5, hc, h⟩ := bn_some h
    refine s_mask [true, true, true, false] ?_
    refine pX10_plan_30 hX hcs _ _ _ _ _ hc ?_
    refine s_aload_n hX dX10_plan_46 rfl ?_
    refine s_iconst 0 hX dX10_plan_47 (by decide) ?_
    obtain ⟨σ6, eσ6, h⟩ := bd_some h
    refine s_putI hX fo_RX10_79_9 SH_123 rfl dX10_plan_48 ?_
    refine s_mem σ6 eσ6 ?_
    refine s_iconst 0 hX dX10_plan_51 (by decide) ?_
    refine s_istore_n hX dX10_plan_52 (by decide) ?_
    obtain ⟨σ7, hc, h⟩ := bn_some h
    refine s_mask [true, false, false, true] ?_
    refine pX10_plan_53 hX hcs  _ _ _ hc ?_
    refine s_aload_n hX dX10_plan_113 rfl ?_
    obtain ⟨σ8, hc, h⟩ := bn_some h
    refine s_callVV _ hX (cX10_promotesAll_ok (sl X)  hc) SH_123 mv_RX10_335_9 (fun _ => rfl) (by decide) (Nat.le_of_ble_eq_true rfl) hcs dX10_plan_114 rfl ?_
    refine s_aload_n hX dX10_plan_117 rfl ?_
    refine s_iconst 1 hX dX10_plan_118 (by decide) ?_
    obtain ⟨σ9, eσ9, h⟩ := bd_some h
    refine s_putZ hX fo_RX10_57_9 SH_123 rfl (Or.inr rfl) dX10_plan_119 ?_
    refine s_mem σ9 eσ9 ?_
    refine s_aload_n hX dX10_plan_122 rfl ?_
    refine s_iconst 1 hX dX10_plan_123 (by decide) ?_
    obtain ⟨r10, hc, h⟩ := bn_some h
    refine s_callVI _ hX (cX10_homes_ok (sl X)  hc) SH_123 mv_RX10_338_9 (fun _ => rfl) (by decide) (Nat.le_of_ble_eq_true rfl) hcs dX10_plan_124 rfl ?_
    obtain ⟨rfl, rfl⟩ := rt2 h
    exact hret _ _ (nzi _) dX10_plan_127
  · replace h := (if_pos c13).symm.trans h
    refine s_aload_n hX dX10_plan_15 rfl ?_
    refine s_iconst 1 hX dX10_plan_16 (by decide) ?_
    obtain ⟨r11, σ12, hc, h⟩ := bn2_some h
    refine s_callVI _ hX (cX10_fails_ok (sl X)  hc) SH_123 mv_RX10_217_9 (fun _ => rfl) (by decide) (Nat.le_of_ble_eq_true rfl) hcs dX10_plan_17 rfl ?_
    obtain ⟨rfl, rfl⟩ := rt2 h
    exact hret _ _ (nzi _) dX10_plan_20
def fX10_home (σ : Mm) (l1 : Int32) (l2 : Int32) : Option (Int32 × Mm) :=
  bd (upm σ 123 (upd (σ 123) 0 0)) fun σ1 =>
  (fX10_isVariable σ1 l1).bind fun r2 =>
  if r2 = 0 then
  bn2 (fX10_fails σ1 1) fun r3 σ4 =>
  some (r3, σ4)
else
  (fX10_in σ1 l2 0 2).bind fun r5 =>
  if r5 = 0 then
  bn2 (fX10_fails σ1 1) fun r14 σ15 =>
  some (r14, σ15)
else
  if (σ1 123 14) = 0 then
  bn2 (fX10_fails σ1 2) fun r11 σ12 =>
  some (r11, σ12)
else
  if l2 = 0 then
  gd l1 12 <|
  some (σ1 139 l1.toNatClampNeg, σ1)
else
  if l2 = 1 then
  gd l1 12 <|
  some (σ1 140 l1.toNatClampNeg, σ1)
else
  gd l1 12 <|
  some (σ1 141 l1.toNatClampNeg, σ1)
set_option maxHeartbeats 4000000 in
theorem cX10_home_ok (l : Launch) {σ : Mm} {l1 : Int32} {l2 : Int32} {r : Int32} {σ' : Mm}  (h : fX10_home σ l1 l2 = some (r, σ')) : cI l yX10_home cX10_home 3 .int 2 42 (fun ad => [.ref (ad 123), .int l1, .int l2]) σ r σ' := by
  refine c_enterI (fun ad => [some (.ref (ad 123)), some (.int l1), some (.int l2)]) (by decide) (fun ad => ⟨by simp [Value.category], Nat.le_of_ble_eq_true rfl⟩) (fun ad => ⟨0, rfl⟩) ?_
  intro X _ hX hret
  have hcs : ((0 : Nat), (0 : Nat)).1 ≤ (sR X).cells ∧ ((0 : Nat), (0 : Nat)).2 ≤ (sR X).slots := ⟨Nat.zero_le _, Nat.zero_le _⟩
  generalize hcs0 : ((0 : Nat), (0 : Nat)) = cs at hcs hret ⊢
  unfold fX10_home at h
  show sW X 3 cs σ 0 [some (.ref (sad X 123)), some (.int l1), some (.int l2)] []
  refine s_aload_n hX dX10_home_0 rfl ?_
  refine s_iconst 0 hX dX10_home_1 (by decide) ?_
  obtain ⟨σ1, eσ1, h⟩ := bd_some h
  refine s_putI hX fo_RX10_1_9 SH_123 rfl dX10_home_2 ?_
  refine s_mem σ1 eσ1 ?_
  refine s_iload_n hX dX10_home_5 rfl ?_
  obtain ⟨r2, hc, h⟩ := bn_some h
  refine s_callSI _ hX (cX10_isVariable_ok (sl X)  hc) ms_RX10_225 (fun _ => rfl) (by decide) (Nat.le_of_ble_eq_true rfl) hcs dX10_home_6 rfl ?_
  refine s_if_eq (tgt := 21) hX dX10_home_9 (by decide) (fun c17 => ?_) (fun c17 => ?_)
  · replace h := (if_pos c17).symm.trans h
    refine s_aload_n hX dX10_home_21 rfl ?_
    refine s_iconst 1 hX dX10_home_22 (by decide) ?_
    obtain ⟨r3, σ4, hc, h⟩ := bn2_some h
    refine s_callVI _ hX (cX10_fails_ok (sl X)  hc) SH_123 mv_RX10_217_9 (fun _ => rfl) (by decide) (Nat.le_of_ble_eq_true rfl) hcs dX10_home_23 rfl ?_
    obtain ⟨rfl, rfl⟩ := rt2 h
    exact hret _ _ (nzi _) dX10_home_26
  · replace h := (if_neg c17).symm.trans h
    refine s_iload_n hX dX10_home_12 rfl ?_
    refine s_iconst 0 hX dX10_home_13 (by decide) ?_
    refine s_iconst 2 hX dX10_home_14 (by decide) ?_
    obtain ⟨r5, hc, h⟩ := bn_some h
    refine s_callSI _ hX (cX10_in_ok (sl X)  hc) ms_RX10_7 (fun _ => rfl) (by decide) (Nat.le_of_ble_eq_true rfl) hcs dX10_home_15 rfl ?_
    refine s_if_ne (tgt := 27) hX dX10_home_18 (by decide) (fun c16 => ?_) (fun c16 => ?_)
    · replace h := (if_neg c16).symm.trans h
      refine s_aload_n hX dX10_home_27 rfl ?_
      refine s_getI hX fo_RX10_57_9 SH_123 rfl dX10_home_28 ?_
      refine s_if_ne (tgt := 40) hX dX10_home_31 (by decide) (fun c13 => ?_) (fun c13 => ?_)
      · replace h := (if_neg c13).symm.trans h
        refine s_iload_n hX dX10_home_40 rfl ?_
        refine s_if_ne (tgt := 53) hX dX10_home_41 (by decide) (fun c10 => ?_) (fun c10 => ?_)
        · replace h := (if_neg c10).symm.trans h
          refine s_iload_n hX dX10_home_53 rfl ?_
          refine s_iconst 1 hX dX10_home_54 (by decide) ?_
          refine s_ic_ne (tgt := 67) hX dX10_home_55 (by decide) (fun c8 => ?_) (fun c8 => ?_)
          · replace h := (if_neg c8).symm.trans h
            refine s_aload_n hX dX10_home_67 rfl ?_
            refine s_getR (r := 141) hX fo_RX10_91_9 SH_123 rfl dX10_home_68 ?_
            refine s_iload_n hX dX10_home_71 rfl ?_
            obtain ⟨c6, h⟩ := gd_some h
            refine s_iald hX SH_141 c6 dX10_home_72 ?_
            obtain ⟨rfl, rfl⟩ := rt2 h
            exact hret _ _ (nzi _) dX10_home_73
          · replace h := (if_pos c8).symm.trans h
            refine s_aload_n hX dX10_home_58 rfl ?_
            refine s_getR (r := 140) hX fo_RX10_88_9 SH_123 rfl dX10_home_59 ?_
            refine s_iload_n hX dX10_home_62 rfl ?_
            obtain ⟨c7, h⟩ := gd_some h
            refine s_iald hX SH_140 c7 dX10_home_63 ?_
            refine s_goto (tgt := 73) hX dX10_home_64 (by decide) ?_
            obtain ⟨rfl, rfl⟩ := rt2 h
            exact hret _ _ (nzi _) dX10_home_73
        · replace h := (if_pos c10).symm.trans h
          refine s_aload_n hX dX10_home_44 rfl ?_
          refine s_getR (r := 139) hX fo_RX10_85_9 SH_123 rfl dX10_home_45 ?_
          refine s_iload_n hX dX10_home_48 rfl ?_
          obtain ⟨c9, h⟩ := gd_some h
          refine s_iald hX SH_139 c9 dX10_home_49 ?_
          refine s_goto (tgt := 73) hX dX10_home_50 (by decide) ?_
          obtain ⟨rfl, rfl⟩ := rt2 h
          exact hret _ _ (nzi _) dX10_home_73
      · replace h := (if_pos c13).symm.trans h
        refine s_aload_n hX dX10_home_34 rfl ?_
        refine s_iconst 2 hX dX10_home_35 (by decide) ?_
        obtain ⟨r11, σ12, hc, h⟩ := bn2_some h
        refine s_callVI _ hX (cX10_fails_ok (sl X)  hc) SH_123 mv_RX10_217_9 (fun _ => rfl) (by decide) (Nat.le_of_ble_eq_true rfl) hcs dX10_home_36 rfl ?_
        obtain ⟨rfl, rfl⟩ := rt2 h
        exact hret _ _ (nzi _) dX10_home_39
    · replace h := (if_pos c16).symm.trans h
      refine s_aload_n hX dX10_home_21 rfl ?_
      refine s_iconst 1 hX dX10_home_22 (by decide) ?_
      obtain ⟨r14, σ15, hc, h⟩ := bn2_some h
      refine s_callVI _ hX (cX10_fails_ok (sl X)  hc) SH_123 mv_RX10_217_9 (fun _ => rfl) (by decide) (Nat.le_of_ble_eq_true rfl) hcs dX10_home_23 rfl ?_
      obtain ⟨rfl, rfl⟩ := rt2 h
      exact hret _ _ (nzi _) dX10_home_26
def fX10_promoted (σ : Mm) (l1 : Int32) (l2 : Int32) : Option (Int32 × Mm) :=
  bd (upm σ 123 (upd (σ 123) 0 0)) fun σ1 =>
  (fX10_isVariable σ1 l1).bind fun r2 =>
  if r2 = 0 then
  bn2 (fX10_fails σ1 1) fun r16 σ17 =>
  some (r16, σ17)
else
  (fX10_layLoops σ1).bind fun σ3 =>
  (fX10_in σ3 l2 0 ((σ3 123 17) - 1)).bind fun r4 =>
  if r4 = 0 then
  bn2 (fX10_fails σ3 2) fun r13 σ14 =>
  some (r13, σ14)
else
  if (σ3 123 14) = 0 then
  bn2 (fX10_fails σ3 3) fun r10 σ11 =>
  some (r10, σ11)
else
  gd ((8 * l1) + l2) 96 <|
  bd (σ3 142 ((8 * l1) + l2).toNatClampNeg) fun v6 =>
  if 0 ≤ v6 then
  some (v6, σ3)
else
  bn2 (fX10_fails σ3 4) fun r7 σ8 =>
  some (r7, σ8)
set_option maxHeartbeats 4000000 in
theorem cX10_promoted_ok (l : Launch) {σ : Mm} {l1 : Int32} {l2 : Int32} {r : Int32} {σ' : Mm}  (h : fX10_promoted σ l1 l2 = some (r, σ')) : cI l yX10_promoted cX10_promoted 4 .int 3 74 (fun ad => [.ref (ad 123), .int l1, .int l2]) σ r σ' := by
  refine c_enterI (fun ad => [some (.ref (ad 123)), some (.int l1), some (.int l2), none]) (by decide) (fun ad => ⟨by simp [Value.category], Nat.le_of_ble_eq_true rfl⟩) (fun ad => ⟨1, rfl⟩) ?_
  intro X _ hX hret
  have hcs : ((0 : Nat), (0 : Nat)).1 ≤ (sR X).cells ∧ ((0 : Nat), (0 : Nat)).2 ≤ (sR X).slots := ⟨Nat.zero_le _, Nat.zero_le _⟩
  generalize hcs0 : ((0 : Nat), (0 : Nat)) = cs at hcs hret ⊢
  unfold fX10_promoted at h
  show sW X 4 cs σ 0 [some (.ref (sad X 123)), some (.int l1), some (.int l2), none] []
  refine s_aload_n hX dX10_promoted_0 rfl ?_
  refine s_iconst 0 hX dX10_promoted_1 (by decide) ?_
  obtain ⟨σ1, eσ1, h⟩ := bd_some h
  refine s_putI hX fo_RX10_1_9 SH_123 rfl dX10_promoted_2 ?_
  refine s_mem σ1 eσ1 ?_
  refine s_iload_n hX dX10_promoted_5 rfl ?_
  obtain ⟨r2, hc, h⟩ := bn_some h
  refine s_callSI _ hX (cX10_isVariable_ok (sl X)  hc) ms_RX10_225 (fun _ => rfl) (by decide) (Nat.le_of_ble_eq_true rfl) hcs dX10_promoted_6 rfl ?_
  refine s_if_ne (tgt := 18) hX dX10_promoted_9 (by decide) (fun c18 => ?_) (fun c18 => ?_)
  · replace h := (if_neg c18).symm.trans h
    refine s_aload_n hX dX10_promoted_18 rfl ?_
    obtain ⟨σ3, hc, h⟩ := bn_some h
    refine s_callVV _ hX (cX10_layLoops_ok (sl X)  hc) SH_123 mv_RX10_276_9 (fun _ => rfl) (by decide) (Nat.le_of_ble_eq_true rfl) hcs dX10_promoted_19 rfl ?_
    refine s_iload_n hX dX10_promoted_22 rfl ?_
    refine s_iconst 0 hX dX10_promoted_23 (by decide) ?_
    refine s_aload_n hX dX10_promoted_24 rfl ?_
    refine s_getI hX fo_RX10_67_9 SH_123 rfl dX10_promoted_25 ?_
    refine s_iconst 1 hX dX10_promoted_28 (by decide) ?_
    refine s_isub hX dX10_promoted_29 ?_
    obtain ⟨r4, hc, h⟩ := bn_some h
    refine s_callSI _ hX (cX10_in_ok (sl X)  hc) ms_RX10_7 (fun _ => rfl) (by decide) (Nat.le_of_ble_eq_true rfl) hcs dX10_promoted_30 rfl ?_
    refine s_if_ne (tgt := 42) hX dX10_promoted_33 (by decide) (fun c15 => ?_) (fun c15 => ?_)
    · replace h := (if_neg c15).symm.trans h
      refine s_aload_n hX dX10_promoted_42 rfl ?_
      refine s_getI hX fo_RX10_57_9 SH_123 rfl dX10_promoted_43 ?_
      refine s_if_ne (tgt := 55) hX dX10_promoted_46 (by decide) (fun c12 => ?_) (fun c12 => ?_)
      · replace h := (if_neg c12).symm.trans h
        refine s_aload_n hX dX10_promoted_55 rfl ?_
        refine s_getR (r := 142) hX fo_RX10_94_9 SH_123 rfl dX10_promoted_56 ?_
        refine s_bipush 8 hX dX10_promoted_59 (by decide) ?_
        refine s_iload_n hX dX10_promoted_61 rfl ?_
        refine s_imul hX dX10_promoted_62 ?_
        refine s_iload_n hX dX10_promoted_63 rfl ?_
        refine s_iadd hX dX10_promoted_64 ?_
        obtain ⟨c5, h⟩ := gd_some h
        refine s_iald hX SH_142 c5 dX10_promoted_65 ?_
        obtain ⟨v6, ev6, h⟩ := bd_some h
        refine s_topi v6 ev6 ?_
        refine s_istore_n hX dX10_promoted_66 (by decide) ?_
        refine s_iload_n hX dX10_promoted_67 rfl ?_
        refine s_if_ge (tgt := 79) hX dX10_promoted_68 (by decide) (fun c9 => ?_) (fun c9 => ?_)
        · replace h := (if_pos c9).symm.trans h
          refine s_iload_n hX dX10_promoted_79 rfl ?_
          obtain ⟨rfl, rfl⟩ := rt2 h
          exact hret _ _ (nzi _) dX10_promoted_80
        · replace h := (if_neg c9).symm.trans h
          refine s_aload_n hX dX10_promoted_71 rfl ?_
          refine s_iconst 4 hX dX10_promoted_72 (by decide) ?_
          obtain ⟨r7, σ8, hc, h⟩ := bn2_some h
          refine s_callVI _ hX (cX10_fails_ok (sl X)  hc) SH_123 mv_RX10_217_9 (fun _ => rfl) (by decide) (Nat.le_of_ble_eq_true rfl) hcs dX10_promoted_73 rfl ?_
          refine s_goto (tgt := 80) hX dX10_promoted_76 (by decide) ?_
          obtain ⟨rfl, rfl⟩ := rt2 h
          exact hret _ _ (nzi _) dX10_promoted_80
      · replace h := (if_pos c12).symm.trans h
        refine s_aload_n hX dX10_promoted_49 rfl ?_
        refine s_iconst 3 hX dX10_promoted_50 (by decide) ?_
        obtain ⟨r10, σ11, hc, h⟩ := bn2_some h
        refine s_callVI _ hX (cX10_fails_ok (sl X)  hc) SH_123 mv_RX10_217_9 (fun _ => rfl) (by decide) (Nat.le_of_ble_eq_true rfl) hcs dX10_promoted_51 rfl ?_
        obtain ⟨rfl, rfl⟩ := rt2 h
        exact hret _ _ (nzi _) dX10_promoted_54
    · replace h := (if_pos c15).symm.trans h
      refine s_aload_n hX dX10_promoted_36 rfl ?_
      refine s_iconst 2 hX dX10_promoted_37 (by decide) ?_
      obtain ⟨r13, σ14, hc, h⟩ := bn2_some h
      refine s_callVI _ hX (cX10_fails_ok (sl X)  hc) SH_123 mv_RX10_217_9 (fun _ => rfl) (by decide) (Nat.le_of_ble_eq_true rfl) hcs dX10_promoted_38 rfl ?_
      obtain ⟨rfl, rfl⟩ := rt2 h
      exact hret _ _ (nzi _) dX10_promoted_41
  · replace h := (if_pos c18).symm.trans h
    refine s_aload_n hX dX10_promoted_12 rfl ?_
    refine s_iconst 1 hX dX10_promoted_13 (by decide) ?_
    obtain ⟨r16, σ17, hc, h⟩ := bn2_some h
    refine s_callVI _ hX (cX10_fails_ok (sl X)  hc) SH_123 mv_RX10_217_9 (fun _ => rfl) (by decide) (Nat.le_of_ble_eq_true rfl) hcs dX10_promoted_14 rfl ?_
    obtain ⟨rfl, rfl⟩ := rt2 h
    exact hret _ _ (nzi _) dX10_promoted_17
