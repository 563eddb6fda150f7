def gX10_enters_2  (rec : Mm × Int32 → Option (Mm)) (σ : Mm) (x1 : Int32) : Option (Mm) :=
  if 12 ≤ x1 then
  some σ
else
  gd x1 12 <|
  gd x1 12 <|
  bd (upm σ 146 (upd (σ 146) x1.toNatClampNeg (σ 134 x1.toNatClampNeg))) fun σ3 =>
  if (σ3 123 40) = 0 then
  bd (x1 + 1) fun v4 =>
  rec (σ3, v4)
else
  gd 0 8 <|
  (fX10_has σ3 (σ3 135 (Int32.toNatClampNeg 0)) x1).bind fun r6 =>
  if r6 = 0 then
  bd (x1 + 1) fun v19 =>
  rec (σ3, v19)
else
  gd x1 12 <|
  if (σ3 139 x1.toNatClampNeg) = 0 then
  gd x1 12 <|
  gd x1 12 <|
  gd (σ3 140 x1.toNatClampNeg) 12 <|
  bd (upm σ3 147 (upd (σ3 147) (σ3 140 x1.toNatClampNeg).toNatClampNeg (σ3 134 x1.toNatClampNeg))) fun σ16 =>
  bd (x1 + 1) fun v17 =>
  rec (σ16, v17)
else
  gd x1 12 <|
  gd x1 12 <|
  gd (σ3 141 x1.toNatClampNeg) 12 <|
  bd (upm σ3 148 (upd (σ3 148) (σ3 141 x1.toNatClampNeg).toNatClampNeg (σ3 134 x1.toNatClampNeg))) fun σ11 =>
  bd (x1 + 1) fun v12 =>
  rec (σ11, v12)
def qX10_enters_2  : Nat → Mm × Int32 → Option (Mm) := lp (fun rec s => gX10_enters_2  rec s.1 s.2)
def fX10_enters (σ : Mm) : Option Mm :=
  (qX10_enters_2  FU (σ, 0)).bind fun σ1 =>
  if (σ1 123 40) = 0 then
  some σ1
else
  (fX10_goesInto σ1 (-1) 0).bind fun σ2 =>
  some σ2
set_option maxHeartbeats 4000000 in
theorem pX10_enters_2 {X : sT} {cs : Nat × Nat} (hX : sX X cX10_enters RX10 2 3 70) (hcs : cs.1 ≤ (sR X).cells ∧ cs.2 ≤ (sR X).slots)   : ∀ (n : Nat) (s : Mm × Int32) (r : Mm), qX10_enters_2  n s = some r → sW X 2 cs r 95 [some (.ref (sad X 123)), none] [] → sW X 2 cs s.1 2 [some (.ref (sad X 123)), some (.int s.2)] [] := by
  refine lp_ind (P := fun (s : Mm × Int32) (r : Mm) => sW X 2 cs r 95 [some (.ref (sad X 123)), none] [] → sW X 2 cs s.1 2 [some (.ref (sad X 123)), some (.int s.2)] []) ?_
  intro rec hrec s r h0 hk
  obtain ⟨σ, x1⟩ := s
  have h : gX10_enters_2  rec σ x1 = some r := h0
  unfold gX10_enters_2 at h
  show sW X 2 cs σ 2 [some (.ref (sad X 123)), some (.int x1)] []
  refine s_iload_n hX dX10_enters_2 rfl ?_
  refine s_bipush 12 hX dX10_enters_3 (by decide) ?_
  refine s_ic_ge (tgt := 95) hX dX10_enters_5 (by decide) (fun c22 => ?_) (fun c22 => ?_)
  · replace h := (if_pos c22).symm.trans h
    obtain rfl := rt1 h
    refine s_mask [true, false] ?_
    exact hk
  · replace h := (if_neg c22).symm.trans h
    refine s_aload_n hX dX10_enters_8 rfl ?_
    refine s_getR (r := 146) hX fo_RX10_106_9 SH_123 rfl dX10_enters_9 ?_
    refine s_iload_n hX dX10_enters_12 rfl ?_
    refine s_aload_n hX dX10_enters_13 rfl ?_
    refine s_getR (r := 134) hX fo_RX10_54_9 SH_123 rfl dX10_enters_14 ?_
    refine s_iload_n hX dX10_enters_17 rfl ?_
    obtain ⟨c1, h⟩ := gd_some h
    refine s_iald hX SH_134 c1 dX10_enters_18 ?_
    obtain ⟨c2, h⟩ := gd_some h
    obtain ⟨σ3, eσ3, h⟩ := bd_some h
    refine s_iast hX SH_146 c2 dX10_enters_19 ?_
    refine s_mem σ3 eσ3 ?_
    refine s_aload_n hX dX10_enters_20 rfl ?_
    refine s_getI hX fo_RX10_136_9 SH_123 rfl dX10_enters_21 ?_
    refine s_if_eq (tgt := 89) hX dX10_enters_24 (by decide) (fun c21 => ?_) (fun c21 => ?_)
    · replace h := (if_pos c21).symm.trans h
      obtain ⟨v4, ev4, h⟩ := bd_some h
      refine s_iinc v4 hX dX10_enters_89 rfl (by rw [ev4]; rfl) (by decide) ?_
      refine s_goto (tgt := 2) hX dX10_enters_92 (by decide) ?_
      refine s_mask [true, true] ?_
      exact hrec _ _ h hk
    · replace h := (if_neg c21).symm.trans h
      refine s_aload_n hX dX10_enters_27 rfl ?_
      refine s_getR (r := 135) hX fo_RX10_61_9 SH_123 rfl dX10_enters_28 ?_
      refine s_iconst 0 hX dX10_enters_31 (by decide) ?_
      obtain ⟨c5, h⟩ := gd_some h
      refine s_iald hX SH_135 c5 dX10_enters_32 ?_
      refine s_iload_n hX dX10_enters_33 rfl ?_
      obtain ⟨r6, hc, h⟩ := bn_some h
      refine s_callSI _ hX (cX10_has_ok (sl X)  hc) ms_RX10_255 (fun _ => rfl) (by decide) (Nat.le_of_ble_eq_true rfl) hcs dX10_enters_34 rfl ?_
      refine s_if_ne (tgt := 43) hX dX10_enters_37 (by decide) (fun c20 => ?_) (fun c20 => ?_)
      · replace h := (if_neg c20).symm.trans h
        refine s_aload_n hX dX10_enters_43 rfl ?_
        refine s_getR (r := 139) hX fo_RX10_85_9 SH_123 rfl dX10_enters_44 ?_
        refine s_iload_n hX dX10_enters_47 rfl ?_
        obtain ⟨c7, h⟩ := gd_some h
        refine s_iald hX SH_139 c7 dX10_enters_48 ?_
        refine s_if_ne (tgt := 72) hX dX10_enters_49 (by decide) (fun c18 => ?_) (fun c18 => ?_)
        · replace h := (if_neg c18).symm.trans h
          refine s_aload_n hX dX10_enters_72 rfl ?_
          refine s_getR (r := 148) hX fo_RX10_112_9 SH_123 rfl dX10_enters_73 ?_
          refine s_aload_n hX dX10_enters_76 rfl ?_
          refine s_getR (r := 141) hX fo_RX10_91_9 SH_123 rfl dX10_enters_77 ?_
          refine s_iload_n hX dX10_enters_80 rfl ?_
          obtain ⟨c8, h⟩ := gd_some h
          refine s_iald hX SH_141 c8 dX10_enters_81 ?_
          refine s_aload_n hX dX10_enters_82 rfl ?_
          refine s_getR (r := 134) hX fo_RX10_54_9 SH_123 rfl dX10_enters_83 ?_
          refine s_iload_n hX dX10_enters_86 rfl ?_
          obtain ⟨c9, h⟩ := gd_some h
          refine s_iald hX SH_134 c9 dX10_enters_87 ?_
          obtain ⟨c10, h⟩ := gd_some h
          obtain ⟨σ11, eσ11, h⟩ := bd_some h
          refine s_iast hX SH_148 c10 dX10_enters_88 ?_
          refine s_mem σ11 eσ11 ?_
          obtain ⟨v12, ev12, h⟩ := bd_some h
          refine s_iinc v12 hX dX10_enters_89 rfl (by rw [ev12]; rfl) (by decide) ?_
          refine s_goto (tgt := 2) hX dX10_enters_92 (by decide) ?_
          refine s_mask [true, true] ?_
          exact hrec _ _ h hk
        · replace h := (if_pos c18).symm.trans h
          refine s_aload_n hX dX10_enters_52 rfl ?_
          refine s_getR (r := 147) hX fo_RX10_109_9 SH_123 rfl dX10_enters_53 ?_
          refine s_aload_n hX dX10_enters_56 rfl ?_
          refine s_getR (r := 140) hX fo_RX10_88_9 SH_123 rfl dX10_enters_57 ?_
          refine s_iload_n hX dX10_enters_60 rfl ?_
          obtain ⟨c13, h⟩ := gd_some h
          refine s_iald hX SH_140 c13 dX10_enters_61 ?_
          refine s_aload_n hX dX10_enters_62 rfl ?_
          refine s_getR (r := 134) hX fo_RX10_54_9 SH_123 rfl dX10_enters_63 ?_
          refine s_iload_n hX dX10_enters_66 rfl ?_
          obtain ⟨c14, h⟩ := gd_some h
          refine s_iald hX SH_134 c14 dX10_enters_67 ?_
          obtain ⟨c15, h⟩ := gd_some h
          obtain ⟨σ16, eσ16, h⟩ := bd_some h
          refine s_iast hX SH_147 c15 dX10_enters_68 ?_
          refine s_mem σ16 eσ16 ?_
          refine s_goto (tgt := 89) hX dX10_enters_69 (by decide) ?_
          obtain ⟨v17, ev17, h⟩ := bd_some h
          refine s_iinc v17 hX dX10_enters_89 rfl (by rw [ev17]; rfl) (by decide) ?_
          refine s_goto (tgt := 2) hX dX10_enters_92 (by decide) ?_
          refine s_mask [true, true] ?_
          exact hrec _ _ h hk
      · replace h := (if_pos c20).symm.trans h
        refine s_goto (tgt := 89) hX dX10_enters_40 (by decide) ?_
        obtain ⟨v19, ev19, h⟩ := bd_some h
        refine s_iinc v19 hX dX10_enters_89 rfl (by rw [ev19]; rfl) (by decide) ?_
        refine s_goto (tgt := 2) hX dX10_enters_92 (by decide) ?_
        refine s_mask [true, true] ?_
        exact hrec _ _ h hk
set_option maxHeartbeats 4000000 in
theorem cX10_enters_ok (l : Launch) {σ : Mm} {σ' : Mm}  (h : fX10_enters σ = some σ') : cV l yX10_enters cX10_enters 2 3 70 (fun ad => [.ref (ad 123)]) σ σ' := by
  refine c_enterV (fun ad => [some (.ref (ad 123)), none]) (by decide) (fun ad => ⟨by simp [Value.category], Nat.le_of_ble_eq_true rfl⟩) (fun ad => ⟨1, rfl⟩) ?_
  intro X _ hX hret
  have hcs : ((0 : Nat), (0 : Nat)).1 ≤ (sR X).cells ∧ ((0 : Nat), (0 : Nat)).2 ≤ (sR X).slots := ⟨Nat.zero_le _, Nat.zero_le _⟩
  generalize hcs0 : ((0 : Nat), (0 : Nat)) = cs at hcs hret ⊢
  unfold fX10_enters at h
  show sW X 2 cs σ 0 [some (.ref (sad X 123)), none] []
  refine s_iconst 0 hX dX10_enters_0 (by decide) ?_
  refine s_istore_n hX dX10_enters_1 (by decide) ?_
  obtain ⟨σ1, hc, h⟩ := bn_some h
  refine s_mask [true, true] ?_
  refine pX10_enters_2 hX hcs  _ _ _ hc ?_
  refine s_aload_n hX dX10_enters_95 rfl ?_
  refine s_getI hX fo_RX10_136_9 SH_123 rfl dX10_enters_96 ?_
  refine s_if_eq (tgt := 108) hX dX10_enters_99 (by decide) (fun c3 => ?_) (fun c3 => ?_)
  · replace h := (if_pos c3).symm.trans h
    obtain rfl := rt1 h
    exact hret _ _ dX10_enters_108
  · replace h := (if_neg c3).symm.trans h
    refine s_aload_n hX dX10_enters_102 rfl ?_
    refine s_iconst (-1) hX dX10_enters_103 (by decide) ?_
    refine s_iconst 0 hX dX10_enters_104 (by decide) ?_
    obtain ⟨σ2, hc, h⟩ := bn_some h
    refine s_callVV _ hX (cX10_goesInto_ok (sl X)  hc) SH_123 mv_RX10_362_9 (fun _ => rfl) (by decide) (Nat.le_of_ble_eq_true rfl) hcs dX10_enters_105 rfl ?_
    obtain rfl := rt1 h
    exact hret _ _ dX10_enters_108
def gX10_executes_2 (l1 : Int32) (rec : Mm × Int32 → Option (Mm)) (σ : Mm) (x2 : Int32) : Option (Mm) :=
  if 4 ≤ x2 then
  some σ
else
  gd x2 4 <|
  bd (upm σ 150 (upd (σ 150) x2.toNatClampNeg 0)) fun σ2 =>
  bd (x2 + 1) fun v3 =>
  rec (σ2, v3)
def qX10_executes_2 (l1 : Int32) : Nat → Mm × Int32 → Option (Mm) := lp (fun rec s => gX10_executes_2 l1 rec s.1 s.2)
def gX10_executes_22 (l1 : Int32) (rec : Mm × Int32 → Option (Mm)) (σ : Mm) (x2 : Int32) : Option (Mm) :=
  if 8 ≤ x2 then
  some σ
else
  gd x2 8 <|
  bd (upm σ 152 (upd (σ 152) x2.toNatClampNeg 0)) fun σ2 =>
  bd (x2 + 1) fun v3 =>
  rec (σ2, v3)
def qX10_executes_22 (l1 : Int32) : Nat → Mm × Int32 → Option (Mm) := lp (fun rec s => gX10_executes_22 l1 rec s.1 s.2)
def gX10_executes_136 (l1 : Int32) (rec : Mm × Int32 → Option (Mm)) (σ : Mm) (x2 : Int32) : Option (Mm) :=
  gd (σ 123 39) 8 <|
  if (σ 124 (σ 123 39).toNatClampNeg) ≤ x2 then
  some σ
else
  (fX10_does σ ((8 * (σ 123 39)) + x2)).bind fun σ2 =>
  bd (x2 + 1) fun v3 =>
  rec (σ2, v3)
def qX10_executes_136 (l1 : Int32) : Nat → Mm × Int32 → Option (Mm) := lp (fun rec s => gX10_executes_136 l1 rec s.1 s.2)
def gX10_executes_58 (l1 : Int32) (rec : Mm → Option ((Int32 × Mm) ⊕ Unit)) (σ : Mm) : Option ((Int32 × Mm) ⊕ Unit) :=
  gd 0 2 <|
  bd (upm σ 153 (upd (σ 153) (Int32.toNatClampNeg 0) (-1))) fun σ2 =>
  gd 1 2 <|
  bd (upm σ2 153 (upd (σ2 153) (Int32.toNatClampNeg 1) (-1))) fun σ4 =>
  bd (upm σ4 123 (upd (σ4 123) 38 0)) fun σ5 =>
  bd (σ5 123 39) fun v6 =>
  gd v6 8 <|
  gd v6 8 <|
  bd (upm σ5 152 (upd (σ5 152) v6.toNatClampNeg ((σ5 152 v6.toNatClampNeg) + 1))) fun σ9 =>
  gd 0 4 <|
  gd (σ9 123 39) 8 <|
  if (((σ9 150 (Int32.toNatClampNeg 0)) + (σ9 124 (σ9 123 39).toNatClampNeg)) + 1) ≤ l1 then
  gd 0 4 <|
  gd (σ9 123 39) 8 <|
  gd 0 4 <|
  bd (upm σ9 150 (upd (σ9 150) (Int32.toNatClampNeg 0) ((σ9 150 (Int32.toNatClampNeg 0)) + ((σ9 124 (σ9 123 39).toNatClampNeg) + 1)))) fun σ15 =>
  (qX10_executes_136 l1 FU (σ15, 0)).bind fun σ16 =>
  gd (σ16 123 39) 8 <|
  jn (fun (σ18 : Mm) (v19 : Int32) => gd (σ18 123 39) 8 <|
  if (σ18 125 (σ18 123 39).toNatClampNeg) = 2 then
  bd (upm σ18 123 (upd (σ18 123) 41 v19)) fun σ34 =>
  some (.inl (1, σ34))
else
  gd (σ18 123 39) 8 <|
  jn (fun (v23 : Int32) => if (σ18 123 40) = 0 then
  bd (upm σ18 123 (upd (σ18 123) 39 v23)) fun σ25 =>
  rec σ25
else
  (fX10_goesInto σ18 (σ18 123 39) v23).bind fun σ26 =>
  bd (upm σ26 123 (upd (σ26 123) 39 v23)) fun σ27 =>
  rec σ27) fun j24 =>
  if (σ18 125 (σ18 123 39).toNatClampNeg) = 0 then
  gd (σ18 123 39) 8 <|
  j24 (σ18 127 (σ18 123 39).toNatClampNeg)
else
  if v19 = 0 then
  gd (σ18 123 39) 8 <|
  j24 (σ18 128 (σ18 123 39).toNatClampNeg)
else
  gd (σ18 123 39) 8 <|
  j24 (σ18 127 (σ18 123 39).toNatClampNeg)) fun j20 =>
  if (σ16 125 (σ16 123 39).toNatClampNeg) = 0 then
  j20 σ16 0
else
  gd (σ16 123 39) 8 <|
  bn2 (fX10_got σ16 (σ16 126 (σ16 123 39).toNatClampNeg)) fun r37 σ38 =>
  j20 σ38 r37
else
  some (.inl (0, σ9))
def qX10_executes_58 (l1 : Int32) : Nat → Mm → Option ((Int32 × Mm) ⊕ Unit) := lp (fun rec s => gX10_executes_58 l1 rec s)
def fX10_executes (σ : Mm) (l1 : Int32) : Option (Int32 × Mm) :=
  (qX10_executes_2 l1 FU (σ, 0)).bind fun σ1 =>
  (qX10_executes_22 l1 FU (σ1, 0)).bind fun σ2 =>
  (fX10_layLive σ2).bind fun σ3 =>
  (fX10_layLoops σ3).bind fun σ4 =>
  bd (upm σ4 123 (upd (σ4 123) 39 0)) fun σ5 =>
  (fX10_enters σ5).bind fun σ6 =>
  bns (qX10_executes_58 l1 FU σ6) (fun u => some u) (fun _ => none)
set_option maxHeartbeats 4000000 in
theorem pX10_executes_2 {X : sT} {cs : Nat × Nat} (hX : sX X cX10_executes RX10 4 4 92) (hcs : cs.1 ≤ (sR X).cells ∧ cs.2 ≤ (sR X).slots) (l1 : Int32)  : ∀ (n : Nat) (s : Mm × Int32) (r : Mm), qX10_executes_2 l1 n s = some r → sW X 4 cs r 20 [some (.ref (sad X 123)), some (.int l1), none, none] [] → sW X 4 cs s.1 2 [some (.ref (sad X 123)), some (.int l1), some (.int s.2), none] [] := by
  refine lp_ind (P := fun (s : Mm × Int32) (r : Mm) => sW X 4 cs r 20 [some (.ref (sad X 123)), some (.int l1), none, none] [] → sW X 4 cs s.1 2 [some (.ref (sad X 123)), some (.int l1), some (.int s.2), none] []) ?_
  intro rec hrec s r h0 hk
  obtain ⟨σ, x2⟩ := s
  have h : gX10_executes_2 l1 rec σ x2 = some r := h0
  unfold gX10_executes_2 at h
  show sW X 4 cs σ 2 [some (.ref (sad X 123)), some (.int l1), some (.int x2), none] []
  refine s_iload_n hX dX10_executes_2 rfl ?_
  refine s_iconst 4 hX dX10_executes_3 (by decide) ?_
  refine s_ic_ge (tgt := 20) hX dX10_executes_4 (by decide) (fun c4 => ?_) (fun c4 => ?_)
  · replace h := (if_pos c4).symm.trans h
    obtain rfl := rt1 h
    refine s_mask [true, true, false, false] ?_
    exact hk
  · replace h := (if_neg c4).symm.trans h
    refine s_aload_n hX dX10_executes_7 rfl ?_
    refine s_getR (r := 150) hX fo_RX10_118_9 SH_123 rfl dX10_executes_8 ?_
    refine s_iload_n hX dX10_executes_11 rfl ?_
    refine s_iconst 0 hX dX10_executes_12 (by decide) ?_
    obtain ⟨c1, h⟩ := gd_some h
    obtain ⟨σ2, eσ2, h⟩ := bd_some h
    refine s_iast hX SH_150 c1 dX10_executes_13 ?_
    refine s_mem σ2 eσ2 ?_
    obtain ⟨v3, ev3, h⟩ := bd_some h
    refine s_iinc v3 hX dX10_executes_14 rfl (by rw [ev3]; rfl) (by decide) ?_
    refine s_goto (tgt := 2) hX dX10_executes_17 (by decide) ?_
    refine s_mask [true, true, true, false] ?_
    exact hrec _ _ h hk
set_option maxHeartbeats 4000000 in
theorem pX10_executes_22 {X : sT} {cs : Nat × Nat} (hX : sX X cX10_executes RX10 4 4 92) (hcs : cs.1 ≤ (sR X).cells ∧ cs.2 ≤ (sR X).slots) (l1 : Int32)  : ∀ (n : Nat) (s : Mm × Int32) (r : Mm), qX10_executes_22 l1 n s = some r → sW X 4 cs r 41 [some (.ref (sad X 123)), some (.int l1), none, none] [] → sW X 4 cs s.1 22 [some (.ref (sad X 123)), some (.int l1), some (.int s.2), none] [] := by
  refine lp_ind (P := fun (s : Mm × Int32) (r : Mm) => sW X 4 cs r 41 [some (.ref (sad X 123)), some (.int l1), none, none] [] → sW X 4 cs s.1 22 [some (.ref (sad X 123)), some (.int l1), some (.int s.2), none] []) ?_
  intro rec hrec s r h0 hk
  obtain ⟨σ, x2⟩ := s
  have h : gX10_executes_22 l1 rec σ x2 = some r := h0
  unfold gX10_executes_22 at h
  show sW X 4 cs σ 22 [some (.ref (sad X 123)), some (.int l1), some (.int x2), none] []
  refine s_iload_n hX dX10_executes_22 rfl ?_
  refine s_bipush 8 hX dX10_executes_23 (by decide) ?_
  refine s_ic_ge (tgt := 41) hX dX10_executes_25 (by decide) (fun c4 => ?_) (fun c4 => ?_)
  · replace h := (if_pos c4).symm.trans h
    obtain rfl := rt1 h
    refine s_mask [true, true, false, false] ?_
    exact hk
  · replace h := (if_neg c4).symm.trans h
    refine s_aload_n hX dX10_executes_28 rfl ?_
    refine s_getR (r := 152) hX fo_RX10_124_9 SH_123 rfl dX10_executes_29 ?_
    refine s_iload_n hX dX10_executes_32 rfl ?_
    refine s_iconst 0 hX dX10_executes_33 (by decide) ?_
    obtain ⟨c1, h⟩ := gd_some h
    obtain ⟨σ2, eσ2, h⟩ := bd_some h
    refine s_iast hX SH_152 c1 dX10_executes_34 ?_
    refine s_mem σ2 eσ2 ?_
    obtain ⟨v3, ev3, h⟩ := bd_some h
    refine s_iinc v3 hX dX10_executes_35 rfl (by rw [ev3]; rfl) (by decide) ?_
    refine s_goto (tgt := 22) hX dX10_executes_38 (by decide) ?_
    refine s_mask [true, true, true, false] ?_
    exact hrec _ _ h hk
set_option maxHeartbeats 4000000 in
theorem pX10_executes_136 {X : sT} {cs : Nat × Nat} (hX : sX X cX10_executes RX10 4 4 92) (hcs : cs.1 ≤ (sR X).cells ∧ cs.2 ≤ (sR X).slots) (l1 : Int32)  : ∀ (n : Nat) (s : Mm × Int32) (r : Mm), qX10_executes_136 l1 n s = some r → sW X 4 cs r 168 [some (.ref (sad X 123)), some (.int l1), none, none] [] → sW X 4 cs s.1 136 [some (.ref (sad X 123)), some (.int l1), some (.int s.2), none] [] := by
  refine lp_ind (P := fun (s : Mm × Int32) (r : Mm) => sW X 4 cs r 168 [some (.ref (sad X 123)), some (.int l1), none, none] [] → sW X 4 cs s.1 136 [some (.ref (sad X 123)), some (.int l1), some (.int s.2), none] []) ?_
  intro rec hrec s r h0 hk
  obtain ⟨σ, x2⟩ := s
  have h : gX10_executes_136 l1 rec σ x2 = some r := h0
  unfold gX10_executes_136 at h
  show sW X 4 cs σ 136 [some (.ref (sad X 123)), some (.int l1), some (.int x2), none] []
  refine s_iload_n hX dX10_executes_136 rfl ?_
  refine s_aload_n hX dX10_executes_137 rfl ?_
  refine s_getR (r := 124) hX fo_RX10_23_9 SH_123 rfl dX10_executes_138 ?_
  refine s_aload_n hX dX10_executes_141 rfl ?_
  refine s_getI hX fo_RX10_133_9 SH_123 rfl dX10_executes_142 ?_
  obtain ⟨c1, h⟩ := gd_some h
  refine s_iald hX SH_124 c1 dX10_executes_145 ?_
  refine s_ic_ge (tgt := 168) hX dX10_executes_146 (by decide) (fun c4 => ?_) (fun c4 => ?_)
  · replace h := (if_pos c4).symm.trans h
    obtain rfl := rt1 h
    refine s_mask [true, true, false, false] ?_
    exact hk
  · replace h := (if_neg c4).symm.trans h
    refine s_aload_n hX dX10_executes_149 rfl ?_
    refine s_bipush 8 hX dX10_executes_150 (by decide) ?_
    refine s_aload_n hX dX10_executes_152 rfl ?_
    refine s_getI hX fo_RX10_133_9 SH_123 rfl dX10_executes_153 ?_
    refine s_imul hX dX10_executes_156 ?_
    refine s_iload_n hX dX10_executes_157 rfl ?_
    refine s_iadd hX dX10_executes_158 ?_
    obtain ⟨σ2, hc, h⟩ := bn_some h
    refine s_callVV _ hX (cX10_does_ok (sl X)  hc) SH_123 mv_RX10_368_9 (fun _ => rfl) (by decide) (Nat.le_of_ble_eq_true rfl) hcs dX10_executes_159 rfl ?_
    obtain ⟨v3, ev3, h⟩ := bd_some h
    refine s_iinc v3 hX dX10_executes_162 rfl (by rw [ev3]; rfl) (by decide) ?_
    refine s_goto (tgt := 136) hX dX10_executes_165 (by decide) ?_
    refine s_mask [true, true, true, false] ?_
    exact hrec _ _ h hk
set_option maxHeartbeats 4000000 in
theorem pX10_executes_58 {X : sT} {cs : Nat × Nat} (hX : sX X cX10_executes RX10 4 4 92) (hcs : cs.1 ≤ (sR X).cells ∧ cs.2 ≤ (sR X).slots) (l1 : Int32)  : ∀ (n : Nat) (s : Mm) (r : (Int32 × Mm) ⊕ Unit), qX10_executes_58 l1 n s = some r → (∀ u : Unit, r = .inr u → True) → (∀ u, r = .inl u → ∀ pc L, narrow .boolean (.int u.1) = .int u.1 → decode cX10_executes pc = .ok (.ireturn, 1) → sW X 4 cs u.2 pc L [.int u.1]) → sW X 4 cs s 58 [some (.ref (sad X 123)), some (.int l1), none, none] [] := by
  refine lp_ind (P := fun (s : Mm) (r : (Int32 × Mm) ⊕ Unit) => (∀ u : Unit, r = .inr u → True) → (∀ u, r = .inl u → ∀ pc L, narrow .boolean (.int u.1) = .int u.1 → decode cX10_executes pc = .ok (.ireturn, 1) → sW X 4 cs u.2 pc L [.int u.1]) → sW X 4 cs s 58 [some (.ref (sad X 123)), some (.int l1), none, none] []) ?_
  intro rec hrec s r h0 hk hr
  obtain ⟨σ, e0⟩ : ∃ z, z = s := ⟨s, rfl⟩
  subst e0
  have h : gX10_executes_58 l1 rec σ = some r := h0
  unfold gX10_executes_58 at h
  show sW X 4 cs σ 58 [some (.ref (sad X 123)), some (.int l1), none, none] []
  refine s_aload_n hX dX10_executes_58 rfl ?_
  refine s_getR (r := 153) hX fo_RX10_127_9 SH_123 rfl dX10_executes_59 ?_
  refine s_iconst 0 hX dX10_executes_62 (by decide) ?_
  refine s_iconst (-1) hX dX10_executes_63 (by decide) ?_
  obtain ⟨c1, h⟩ := gd_some h
  obtain ⟨σ2, eσ2, h⟩ := bd_some h
  refine s_iast hX SH_153 c1 dX10_executes_64 ?_
  refine s_mem σ2 eσ2 ?_
  refine s_aload_n hX dX10_executes_65 rfl ?_
  refine s_getR (r := 153) hX fo_RX10_127_9 SH_123 rfl dX10_executes_66 ?_
  refine s_iconst 1 hX dX10_executes_69 (by decide) ?_
  refine s_iconst (-1) hX dX10_executes_70 (by decide) ?_
  obtain ⟨c3, h⟩ := gd_some h
  obtain ⟨σ4, eσ4, h⟩ := bd_some h
  refine s_iast hX SH_153 c3 dX10_executes_71 ?_
  refine s_mem σ4 eσ4 ?_
  refine s_aload_n hX dX10_executes_72 rfl ?_
  refine s_iconst 0 hX dX10_executes_73 (by decide) ?_
  obtain ⟨σ5, eσ5, h⟩ := bd_some h
  refine s_putI hX fo_RX10_130_9 SH_123 rfl dX10_executes_74 ?_
  refine s_mem σ5 eσ5 ?_
  refine s_aload_n hX dX10_executes_77 rfl ?_
  refine s_getR (r := 152) hX fo_RX10_124_9 SH_123 rfl dX10_executes_78 ?_
  refine s_aload_n hX dX10_executes_81 rfl ?_
  refine s_getI hX fo_RX10_133_9 SH_123 rfl dX10_executes_82 ?_
  obtain ⟨v6, ev6, h⟩ := bd_some h
  refine s_topi v6 ev6 ?_
  refine s_dup2 hX dX10_executes_85 rfl rfl ?_
  obtain ⟨c7, h⟩ := gd_some h
  refine s_iald hX SH_152 c7 dX10_executes_86 ?_
  refine s_iconst 1 hX dX10_executes_87 (by decide) ?_
  refine s_iadd hX dX10_executes_88 ?_
  obtain ⟨c8, h⟩ := gd_some h
  obtain ⟨σ9, eσ9, h⟩ := bd_some h
  refine s_iast hX SH_152 c8 dX10_executes_89 ?_
  refine s_mem σ9 eσ9 ?_
  refine s_aload_n hX dX10_executes_90 rfl ?_
  refine s_getR (r := 150) hX fo_RX10_118_9 SH_123 rfl dX10_executes_91 ?_
  refine s_iconst 0 hX dX10_executes_94 (by decide) ?_
  obtain ⟨c10, h⟩ := gd_some h
  refine s_iald hX SH_150 c10 dX10_executes_95 ?_
  refine s_aload_n hX dX10_executes_96 rfl ?_
  refine s_getR (r := 124) hX fo_RX10_23_9 SH_123 rfl dX10_executes_97 ?_
  refine s_aload_n hX dX10_executes_100 rfl ?_
  refine s_getI hX fo_RX10_133_9 SH_123 rfl dX10_executes_101 ?_
  obtain ⟨c11, h⟩ := gd_some h
  refine s_iald hX SH_124 c11 dX10_executes_104 ?_
  refine s_iadd hX dX10_executes_105 ?_
  refine s_iconst 1 hX dX10_executes_106 (by decide) ?_
  refine s_iadd hX dX10_executes_107 ?_
  refine s_iload_n hX dX10_executes_108 rfl ?_
  refine s_ic_le (tgt := 114) hX dX10_executes_109 (by decide) (fun c40 => ?_) (fun c40 => ?_)
  · replace h := (if_pos c40).symm.trans h
    refine s_aload_n hX dX10_executes_114 rfl ?_
    refine s_getR (r := 150) hX fo_RX10_118_9 SH_123 rfl dX10_executes_115 ?_
    refine s_iconst 0 hX dX10_executes_118 (by decide) ?_
    refine s_dup2 hX dX10_executes_119 rfl rfl ?_
    obtain ⟨c12, h⟩ := gd_some h
    refine s_iald hX SH_150 c12 dX10_executes_120 ?_
    refine s_aload_n hX dX10_executes_121 rfl ?_
    refine s_getR (r := 124) hX fo_RX10_23_9 SH_123 rfl dX10_executes_122 ?_
    refine s_aload_n hX dX10_executes_125 rfl ?_
    refine s_getI hX fo_RX10_133_9 SH_123 rfl dX10_executes_126 ?_
    obtain ⟨c13, h⟩ := gd_some h
    refine s_iald hX SH_124 c13 dX10_executes_129 ?_
    refine s_iconst 1 hX dX10_executes_130 (by decide) ?_
    refine s_iadd hX dX10_executes_131 ?_
    refine s_iadd hX dX10_executes_132 ?_
    obtain ⟨c14, h⟩ := gd_some h
    obtain ⟨σ15, eσ15, h⟩ := bd_some h
    refine s_iast hX SH_150 c14 dX10_executes_133 ?_
    refine s_mem σ15 eσ15 ?_
    refine s_iconst 0 hX dX10_executes_134 (by decide) ?_
    refine s_istore_n hX dX10_executes_135 (by decide) ?_
    obtain ⟨σ16, hc, h⟩ := bn_some h
    refine s_mask [true, true, true, false] ?_
    refine pX10_executes_136 hX hcs _ _ _ _ hc ?_
    refine s_aload_n hX dX10_executes_168 rfl ?_
    refine s_getR (r := 125) hX fo_RX10_27_9 SH_123 rfl dX10_executes_169 ?_
    refine s_aload_n hX dX10_executes_172 rfl ?_
    refine s_getI hX fo_RX10_133_9 SH_123 rfl dX10_executes_173 ?_
    obtain ⟨c17, h⟩ := gd_some h
    refine s_iald hX SH_125 c17 dX10_executes_176 ?_
    refine jn_use (fun j => ∀ (σ18 : Mm) (v19 : Int32), j σ18 v19 = some r → sW X 4 cs σ18 197 [some (.ref (sad X 123)), some (.int l1), none, none] [.int v19]) h ?_ ?_
    · intro σ18 v19 h
      refine s_istore_n hX dX10_executes_197 (by decide) ?_
      refine s_aload_n hX dX10_executes_198 rfl ?_
      refine s_getR (r := 125) hX fo_RX10_27_9 SH_123 rfl dX10_executes_199 ?_
      refine s_aload_n hX dX10_executes_202 rfl ?_
      refine s_getI hX fo_RX10_133_9 SH_123 rfl dX10_executes_203 ?_
      obtain ⟨c21, h⟩ := gd_some h
      refine s_iald hX SH_125 c21 dX10_executes_206 ?_
      refine s_iconst 2 hX dX10_executes_207 (by decide) ?_
      refine s_ic_ne (tgt := 218) hX dX10_executes_208 (by decide) (fun c35 => ?_) (fun c35 => ?_)
      · replace h := (if_neg c35).symm.trans h
        refine s_aload_n hX dX10_executes_218 rfl ?_
        refine s_getR (r := 125) hX fo_RX10_27_9 SH_123 rfl dX10_executes_219 ?_
        refine s_aload_n hX dX10_executes_222 rfl ?_
        refine s_getI hX fo_RX10_133_9 SH_123 rfl dX10_executes_223 ?_
        obtain ⟨c22, h⟩ := gd_some h
        refine s_iald hX SH_125 c22 dX10_executes_226 ?_
        refine jn_use (fun j => ∀ (v23 : Int32), j v23 = some r → sW X 4 cs σ18 255 [some (.ref (sad X 123)), some (.int l1), none, none] [.int v23]) h ?_ ?_
        · intro v23 h
          refine s_istore_n hX dX10_executes_255 (by decide) ?_
          refine s_aload_n hX dX10_executes_256 rfl ?_
          refine s_getI hX fo_RX10_136_9 SH_123 rfl dX10_executes_257 ?_
          refine s_if_eq (tgt := 272) hX dX10_executes_260 (by decide) (fun c28 => ?_) (fun c28 => ?_)
          · replace h := (if_pos c28).symm.trans h
            refine s_aload_n hX dX10_executes_272 rfl ?_
            refine s_iload_n hX dX10_executes_273 rfl ?_
            obtain ⟨σ25, eσ25, h⟩ := bd_some h
            refine s_putI hX fo_RX10_133_9 SH_123 rfl dX10_executes_274 ?_
            refine s_mem σ25 eσ25 ?_
            refine s_goto (tgt := 58) hX dX10_executes_277 (by decide) ?_
            refine s_mask [true, true, false, false] ?_
            exact hrec _ _ h hk hr
          · replace h := (if_neg c28).symm.trans h
            refine s_aload_n hX dX10_executes_263 rfl ?_
            refine s_aload_n hX dX10_executes_264 rfl ?_
            refine s_getI hX fo_RX10_133_9 SH_123 rfl dX10_executes_265 ?_
            refine s_iload_n hX dX10_executes_268 rfl ?_
            obtain ⟨σ26, hc, h⟩ := bn_some h
            refine s_callVV _ hX (cX10_goesInto_ok (sl X)  hc) SH_123 mv_RX10_362_9 (fun _ => rfl) (by decide) (Nat.le_of_ble_eq_true rfl) hcs dX10_executes_269 rfl ?_
            refine s_aload_n hX dX10_executes_272 rfl ?_
            refine s_iload_n hX dX10_executes_273 rfl ?_
            obtain ⟨σ27, eσ27, h⟩ := bd_some h
            refine s_putI hX fo_RX10_133_9 SH_123 rfl dX10_executes_274 ?_
            refine s_mem σ27 eσ27 ?_
            refine s_goto (tgt := 58) hX dX10_executes_277 (by decide) ?_
            refine s_mask [true, true, false, false] ?_
            exact hrec _ _ h hk hr
        · intro j24 hj24 h
          refine s_if_eq (tgt := 234) hX dX10_executes_227 (by decide) (fun c33 => ?_) (fun c33 => ?_)
          · replace h := (if_pos c33).symm.trans h
            refine s_aload_n hX dX10_executes_234 rfl ?_
            refine s_getR (r := 127) hX fo_RX10_33_9 SH_123 rfl dX10_executes_235 ?_
            refine s_aload_n hX dX10_executes_238 rfl ?_
            refine s_getI hX fo_RX10_133_9 SH_123 rfl dX10_executes_239 ?_
            obtain ⟨c29, h⟩ := gd_some h
            refine s_iald hX SH_127 c29 dX10_executes_242 ?_
            refine s_goto (tgt := 255) hX dX10_executes_243 (by decide) ?_
            refine s_mask [true, true, false, false] ?_
            exact hj24 _ h
          · replace h := (if_neg c33).symm.trans h
            refine s_iload_n hX dX10_executes_230 rfl ?_
            refine s_if_eq (tgt := 246) hX dX10_executes_231 (by decide) (fun c32 => ?_) (fun c32 => ?_)
            · replace h := (if_pos c32).symm.trans h
              refine s_aload_n hX dX10_executes_246 rfl ?_
              refine s_getR (r := 128) hX fo_RX10_36_9 SH_123 rfl dX10_executes_247 ?_
              refine s_aload_n hX dX10_executes_250 rfl ?_
              refine s_getI hX fo_RX10_133_9 SH_123 rfl dX10_executes_251 ?_
              obtain ⟨c30, h⟩ := gd_some h
              refine s_iald hX SH_128 c30 dX10_executes_254 ?_
              refine s_mask [true, true, false, false] ?_
              exact hj24 _ h
            · replace h := (if_neg c32).symm.trans h
              refine s_aload_n hX dX10_executes_234 rfl ?_
              refine s_getR (r := 127) hX fo_RX10_33_9 SH_123 rfl dX10_executes_235 ?_
              refine s_aload_n hX dX10_executes_238 rfl ?_
              refine s_getI hX fo_RX10_133_9 SH_123 rfl dX10_executes_239 ?_
              obtain ⟨c31, h⟩ := gd_some h
              refine s_iald hX SH_127 c31 dX10_executes_242 ?_
              refine s_goto (tgt := 255) hX dX10_executes_243 (by decide) ?_
              refine s_mask [true, true, false, false] ?_
              exact hj24 _ h
      · replace h := (if_pos c35).symm.trans h
        refine s_aload_n hX dX10_executes_211 rfl ?_
        refine s_iload_n hX dX10_executes_212 rfl ?_
        obtain ⟨σ34, eσ34, h⟩ := bd_some h
        refine s_putI hX fo_RX10_139_9 SH_123 rfl dX10_executes_213 ?_
        refine s_mem σ34 eσ34 ?_
        refine s_iconst 1 hX dX10_executes_216 (by decide) ?_
        obtain rfl := rt1 h
        exact hr _ rfl _ _ nz1 dX10_executes_217
    · intro j20 hj20 h
      refine s_if_ne (tgt := 184) hX dX10_executes_177 (by decide) (fun c39 => ?_) (fun c39 => ?_)
      · replace h := (if_neg c39).symm.trans h
        refine s_aload_n hX dX10_executes_184 rfl ?_
        refine s_aload_n hX dX10_executes_185 rfl ?_
        refine s_getR (r := 126) hX fo_RX10_30_9 SH_123 rfl dX10_executes_186 ?_
        refine s_aload_n hX dX10_executes_189 rfl ?_
        refine s_getI hX fo_RX10_133_9 SH_123 rfl dX10_executes_190 ?_
        obtain ⟨c36, h⟩ := gd_some h
        refine s_iald hX SH_126 c36 dX10_executes_193 ?_
        obtain ⟨r37, σ38, hc, h⟩ := bn2_some h
        refine s_callVI _ hX (cX10_got_ok (sl X)  hc) SH_123 mv_RX10_359_9 (fun _ => rfl) (by decide) (Nat.le_of_ble_eq_true rfl) hcs dX10_executes_194 rfl ?_
        refine s_mask [true, true, false, false] ?_
        exact hj20 _ _ h
      · replace h := (if_pos c39).symm.trans h
        refine s_iconst 0 hX dX10_executes_180 (by decide) ?_
        refine s_goto (tgt := 197) hX dX10_executes_181 (by decide) ?_
        refine s_mask [true, true, false, false] ?_
        exact hj20 _ _ h
  · replace h := (if_neg c40).symm.trans h
    refine s_iconst 0 hX dX10_executes_112 (by decide) ?_
    obtain rfl := rt1 h
    exact hr _ rfl _ _ nz0 dX10_executes_113
set_option maxHeartbeats 4000000 in
theorem cX10_executes_ok (l : Launch) {σ : Mm} {l1 : Int32} {r : Int32} {σ' : Mm}  (h : fX10_executes σ l1 = some (r, σ')) : cI l yX10_executes cX10_executes 4 .boolean 4 92 (fun ad => [.ref (ad 123), .int l1]) σ r σ' := by
  refine c_enterI (fun ad => [some (.ref (ad 123)), some (.int l1), none, none]) (by decide) (fun ad => ⟨by simp [Value.category], Nat.le_of_ble_eq_true rfl⟩) (fun ad => ⟨2, rfl⟩) ?_
  intro X _ hX hret
  have hcs : ((0 : Nat), (0 : Nat)).1 ≤ (sR X).cells ∧ ((0 : Nat), (0 : Nat)).2 ≤ (sR X).slots := ⟨Nat.zero_le _, Nat.zero_le _⟩
  generalize hcs0 : ((0 : Nat), (0 : Nat)) = cs at hcs hret ⊢
  unfold fX10_executes at h
  show sW X 4 cs σ 0 [some (.ref (sad X 123)), some (.int l1), none, none] []
  refine s_iconst 0 hX dX10_executes_0 (by decide) ?_
  refine s_istore_n hX dX10_executes_1 (by decide) ?_
  obtain ⟨σ1, hc, h⟩ := bn_some h
  refine s_mask [true, true, true, false] ?_
  refine pX10_executes_2 hX hcs _ _ _ _ hc ?_
  refine s_iconst 0 hX dX10_executes_20 (by decide) ?_
  refine s_istore_n hX dX10_executes_21 (by decide) ?_
  obtain ⟨σ2, hc, h⟩ := bn_some h
  refine s_mask [true, true, true, false] ?_
  refine pX10_executes_22 hX hcs _ _ _ _ hc ?_
  refine s_aload_n hX dX10_executes_41 rfl ?_
  obtain ⟨σ3, hc, h⟩ := bn_some h
  refine s_callVV _ hX (cX10_layLive_ok (sl X)  hc) SH_123 mv_RX10_252_9 (fun _ => rfl) (by decide) (Nat.le_of_ble_eq_true rfl) hcs dX10_executes_42 rfl ?_
  refine s_aload_n hX dX10_executes_45 rfl ?_
  obtain ⟨σ4, hc, h⟩ := bn_some h
  refine s_callVV _ hX (cX10_layLoops_ok (sl X)  hc) SH_123 mv_RX10_276_9 (fun _ => rfl) (by decide) (Nat.le_of_ble_eq_true rfl) hcs dX10_executes_46 rfl ?_
  refine s_aload_n hX dX10_executes_49 rfl ?_
  refine s_iconst 0 hX dX10_executes_50 (by decide) ?_
  obtain ⟨σ5, eσ5, h⟩ := bd_some h
  refine s_putI hX fo_RX10_133_9 SH_123 rfl dX10_executes_51 ?_
  refine s_mem σ5 eσ5 ?_
  refine s_aload_n hX dX10_executes_54 rfl ?_
  obtain ⟨σ6, hc, h⟩ := bn_some h
  refine s_callVV _ hX (cX10_enters_ok (sl X)  hc) SH_123 mv_RX10_365_9 (fun _ => rfl) (by decide) (Nat.le_of_ble_eq_true rfl) hcs dX10_executes_55 rfl ?_
  refine s_mask [true, true, false, false] ?_
  rcases bns_some h with ⟨u, hc, h⟩ | ⟨u, hc, h⟩
  · cases h
    exact pX10_executes_58 hX hcs _ _ _ _ hc (fun _ e => trivial) (fun w e pc L nn d => by cases e; exact hret pc L nn d)
  · cases h
def gX10_outcome_16  (rec : Mm × Int32 → Option (Mm)) (σ : Mm) (x3 : Int32) : Option (Mm) :=
  if 4 ≤ x3 then
  some σ
else
  gd x3 4 <|
  gd x3 4 <|
  bd (upm σ 149 (upd (σ 149) x3.toNatClampNeg (σ 150 x3.toNatClampNeg))) fun σ3 =>
  bd (x3 + 1) fun v4 =>
  rec (σ3, v4)
def qX10_outcome_16  : Nat → Mm × Int32 → Option (Mm) := lp (fun rec s => gX10_outcome_16  rec s.1 s.2)
def gX10_outcome_41  (rec : Mm × Int32 → Option (Mm)) (σ : Mm) (x3 : Int32) : Option (Mm) :=
  if 8 ≤ x3 then
  some σ
else
  gd x3 8 <|
  gd x3 8 <|
  bd (upm σ 151 (upd (σ 151) x3.toNatClampNeg (σ 152 x3.toNatClampNeg))) fun σ3 =>
  bd (x3 + 1) fun v4 =>
  rec (σ3, v4)
def qX10_outcome_41  : Nat → Mm × Int32 → Option (Mm) := lp (fun rec s => gX10_outcome_41  rec s.1 s.2)
def fX10_outcome (σ : Mm) (l1 : Int32) (l2 : Int32) : Option (Int32 × Mm) :=
  bn2 (fX10_executes σ l1) fun r1 σ2 =>
  if r1 = 0 then
  bn2 (fX10_fails σ2 l2) fun r5 σ6 =>
  some (r5, σ6)
else
  (qX10_outcome_16  FU (σ2, 0)).bind fun σ3 =>
  (qX10_outcome_41  FU (σ3, 0)).bind fun σ4 =>
  some (σ4 123 41, σ4)
set_option maxHeartbeats 4000000 in
theorem pX10_outcome_16 {X : sT} {cs : Nat × Nat} (hX : sX X cX10_outcome RX10 4 5 115) (hcs : cs.1 ≤ (sR X).cells ∧ cs.2 ≤ (sR X).slots)   : ∀ (n : Nat) (s : Mm × Int32) (r : Mm), qX10_outcome_16  n s = some r → sW X 4 cs r 39 [some (.ref (sad X 123)), none, none, none] [] → sW X 4 cs s.1 16 [some (.ref (sad X 123)), none, none, some (.int s.2)] [] := by
  refine lp_ind (P := fun (s : Mm × Int32) (r : Mm) => sW X 4 cs r 39 [some (.ref (sad X 123)), none, none, none] [] → sW X 4 cs s.1 16 [some (.ref (sad X 123)), none, none, some (.int s.2)] []) ?_
  intro rec hrec s r h0 hk
  obtain ⟨σ, x3⟩ := s
  have h : gX10_outcome_16  rec σ x3 = some r := h0
  unfold gX10_outcome_16 at h
  show sW X 4 cs σ 16 [some (.ref (sad X 123)), none, none, some (.int x3)] []
  refine s_iload_n hX dX10_outcome_16 rfl ?_
  refine s_iconst 4 hX dX10_outcome_17 (by decide) ?_
  refine s_ic_ge (tgt := 39) hX dX10_outcome_18 (by decide) (fun c5 => ?_) (fun c5 => ?_)
  · replace h := (if_pos c5).symm.trans h
    obtain rfl := rt1 h
    refine s_mask [true, false, false, false] ?_
    exact hk
  · replace h := (if_neg c5).symm.trans h
    refine s_aload_n hX dX10_outcome_21 rfl ?_
    refine s_getR (r := 149) hX fo_RX10_115_9 SH_123 rfl dX10_outcome_22 ?_
    refine s_iload_n hX dX10_outcome_25 rfl ?_
    refine s_aload_n hX dX10_outcome_26 rfl ?_
    refine s_getR (r := 150) hX fo_RX10_118_9 SH_123 rfl dX10_outcome_27 ?_
    refine s_iload_n hX dX10_outcome_30 rfl ?_
    obtain ⟨c1, h⟩ := gd_some h
    refine s_iald hX SH_150 c1 dX10_outcome_31 ?_
    obtain ⟨c2, h⟩ := gd_some h
    obtain ⟨σ3, eσ3, h⟩ := bd_some h
    refine s_iast hX SH_149 c2 dX10_outcome_32 ?_
    refine s_mem σ3 eσ3 ?_
    obtain ⟨v4, ev4, h⟩ := bd_some h
    refine s_iinc v4 hX dX10_outcome_33 rfl (by rw [ev4]; rfl) (by decide) ?_
    refine s_goto (tgt := 16) hX dX10_outcome_36 (by decide) ?_
    refine s_mask [true, false, false, true] ?_
    exact hrec _ _ h hk
set_option maxHeartbeats 4000000 in
theorem pX10_outcome_41 {X : sT} {cs : Nat × Nat} (hX : sX X cX10_outcome RX10 4 5 115) (hcs : cs.1 ≤ (sR X).cells ∧ cs.2 ≤ (sR X).slots)   : ∀ (n : Nat) (s : Mm × Int32) (r : Mm), qX10_outcome_41  n s = some r → sW X 4 cs r 65 [some (.ref (sad X 123)), none, none, none] [] → sW X 4 cs s.1 41 [some (.ref (sad X 123)), none, none, some (.int s.2)] [] := by
  refine lp_ind (P := fun (s : Mm × Int32) (r : Mm) => sW X 4 cs r 65 [some (.ref (sad X 123)), none, none, none] [] → sW X 4 cs s.1 41 [some (.ref (sad X 123)), none, none, some (.int s.2)] []) ?_
  intro rec hrec s r h0 hk
  obtain ⟨σ, x3⟩ := s
  have h : gX10_outcome_41  rec σ x3 = some r := h0
  unfold gX10_outcome_41 at h
  show sW X 4 cs σ 41 [some (.ref (sad X 123)), none, none, some (.int x3)] []
  refine s_iload_n hX dX10_outcome_41 rfl ?_
  refine s_bipush 8 hX dX10_outcome_42 (by decide) ?_
  refine s_ic_ge (tgt := 65) hX dX10_outcome_44 (by decide) (fun c5 => ?_) (fun c5 => ?_)
  · replace h := (if_pos c5).symm.trans h
    obtain rfl := rt1 h
    refine s_mask [true, false, false, false] ?_
    exact hk
  · replace h := (if_neg c5).symm.trans h
    refine s_aload_n hX dX10_outcome_47 rfl ?_
    refine s_getR (r := 151) hX fo_RX10_121_9 SH_123 rfl dX10_outcome_48 ?_
    refine s_iload_n hX dX10_outcome_51 rfl ?_
    refine s_aload_n hX dX10_outcome_52 rfl ?_
    refine s_getR (r := 152) hX fo_RX10_124_9 SH_123 rfl dX10_outcome_53 ?_
    refine s_iload_n hX dX10_outcome_56 rfl ?_
    obtain ⟨c1, h⟩ := gd_some h
    refine s_iald hX SH_152 c1 dX10_outcome_57 ?_
    obtain ⟨c2, h⟩ := gd_some h
    obtain ⟨σ3, eσ3, h⟩ := bd_some h
    refine s_iast hX SH_151 c2 dX10_outcome_58 ?_
    refine s_mem σ3 eσ3 ?_
    obtain ⟨v4, ev4, h⟩ := bd_some h
    refine s_iinc v4 hX dX10_outcome_59 rfl (by rw [ev4]; rfl) (by decide) ?_
    refine s_goto (tgt := 41) hX dX10_outcome_62 (by decide) ?_
    refine s_mask [true, false, false, true] ?_
    exact hrec _ _ h hk
set_option maxHeartbeats 4000000 in
theorem cX10_outcome_ok (l : Launch) {σ : Mm} {l1 : Int32} {l2 : Int32} {r : Int32} {σ' : Mm}  (h : fX10_outcome σ l1 l2 = some (r, σ')) : cI l yX10_outcome cX10_outcome 4 .int 5 115 (fun ad => [.ref (ad 123), .int l1, .int l2]) σ r σ' := by
  refine c_enterI (fun ad => [some (.ref (ad 123)), some (.int l1), some (.int l2), none]) (by decide) (fun ad => ⟨by simp [Value.category], Nat.le_of_ble_eq_true rfl⟩) (fun ad => ⟨1, rfl⟩) ?_
  intro X _ hX hret
  have hcs : ((0 : Nat), (0 : Nat)).1 ≤ (sR X).cells ∧ ((0 : Nat), (0 : Nat)).2 ≤ (sR X).slots := ⟨Nat.zero_le _, Nat.zero_le _⟩
  generalize hcs0 : ((0 : Nat), (0 : Nat)) = cs at hcs hret ⊢
  unfold fX10_outcome at h
  show sW X 4 cs σ 0 [some (.ref (sad X 123)), some (.int l1), some (.int l2), none] []
  refine s_aload_n hX dX10_outcome_0 rfl ?_
  refine s_iload_n hX dX10_outcome_1 rfl ?_
  obtain ⟨r1, σ2, hc, h⟩ := bn2_some h
  refine s_callVI _ hX (cX10_executes_ok (sl X)  hc) SH_123 mv_RX10_371_9 (fun _ => rfl) (by decide) (Nat.le_of_ble_eq_true rfl) hcs dX10_outcome_2 rfl ?_
  refine s_if_ne (tgt := 14) hX dX10_outcome_5 (by decide) (fun c7 => ?_) (fun c7 => ?_)
  · replace h := (if_neg c7).symm.trans h
    refine s_iconst 0 hX dX10_outcome_14 (by decide) ?_
    refine s_istore_n hX dX10_outcome_15 (by decide) ?_
    obtain ⟨σ3, hc, h⟩ := bn_some h
    refine s_mask [true, false, false, true] ?_
    refine pX10_outcome_16 hX hcs  _ _ _ hc ?_
    refine s_iconst 0 hX dX10_outcome_39 (by decide) ?_
    refine s_istore_n hX dX10_outcome_40 (by decide) ?_
    obtain ⟨σ4, hc, h⟩ := bn_some h
    refine s_mask [true, false, false, true] ?_
    refine pX10_outcome_41 hX hcs  _ _ _ hc ?_
    refine s_aload_n hX dX10_outcome_65 rfl ?_
    refine s_getI hX fo_RX10_139_9 SH_123 rfl dX10_outcome_66 ?_
    obtain ⟨rfl, rfl⟩ := rt2 h
    exact hret _ _ (nzi _) dX10_outcome_69
  · replace h := (if_pos c7).symm.trans h
    refine s_aload_n hX dX10_outcome_8 rfl ?_
    refine s_iload_n hX dX10_outcome_9 rfl ?_
    obtain ⟨r5, σ6, hc, h⟩ := bn2_some h
    refine s_callVI _ hX (cX10_fails_ok (sl X)  hc) SH_123 mv_RX10_217_9 (fun _ => rfl) (by decide) (Nat.le_of_ble_eq_true rfl) hcs dX10_outcome_10 rfl ?_
    obtain ⟨rfl, rfl⟩ := rt2 h
    exact hret _ _ (nzi _) dX10_outcome_13
def fX10_run (σ : Mm) (l1 : Int32) : Option (Int32 × Mm) :=
  bd (upm σ 123 (upd (σ 123) 0 0)) fun σ1 =>
  (fX10_in σ1 l1 1 1000).bind fun r2 =>
  if r2 = 0 then
  bn2 (fX10_fails σ1 1) fun r6 σ7 =>
  some (r6, σ7)
else
  bd (upm σ1 123 (upd (σ1 123) 40 0)) fun σ3 =>
  bn2 (fX10_outcome σ3 l1 2) fun r4 σ5 =>
  some (r4, σ5)
set_option maxHeartbeats 4000000 in
theorem cX10_run_ok (l : Launch) {σ : Mm} {l1 : Int32} {r : Int32} {σ' : Mm}  (h : fX10_run σ l1 = some (r, σ')) : cI l yX10_run cX10_run 2 .int 6 138 (fun ad => [.ref (ad 123), .int l1]) σ r σ' := by
  refine c_enterI (fun ad => [some (.ref (ad 123)), some (.int l1)]) (by decide) (fun ad => ⟨by simp [Value.category], Nat.le_of_ble_eq_true rfl⟩) (fun ad => ⟨0, rfl⟩) ?_
  intro X _ hX hret
  have hcs : ((0 : Nat), (0 : Nat)).1 ≤ (sR X).cells ∧ ((0 : Nat), (0 : Nat)).2 ≤ (sR X).slots := ⟨Nat.zero_le _, Nat.zero_le _⟩
  generalize hcs0 : ((0 : Nat), (0 : Nat)) = cs at hcs hret ⊢
  unfold fX10_run at h
  show sW X 2 cs σ 0 [some (.ref (sad X 123)), some (.int l1)] []
  refine s_aload_n hX dX10_run_0 rfl ?_
  refine s_iconst 0 hX dX10_run_1 (by decide) ?_
  obtain ⟨σ1, eσ1, h⟩ := bd_some h
  refine s_putI hX fo_RX10_1_9 SH_123 rfl dX10_run_2 ?_
  refine s_mem σ1 eσ1 ?_
  refine s_iload_n hX dX10_run_5 rfl ?_
  refine s_iconst 1 hX dX10_run_6 (by decide) ?_
  refine s_sipush 1000 hX dX10_run_7 (by decide) ?_
  obtain ⟨r2, hc, h⟩ := bn_some h
  refine s_callSI _ hX (cX10_in_ok (sl X)  hc) ms_RX10_7 (fun _ => rfl) (by decide) (Nat.le_of_ble_eq_true rfl) hcs dX10_run_10 rfl ?_
  refine s_if_ne (tgt := 22) hX dX10_run_13 (by decide) (fun c8 => ?_) (fun c8 => ?_)
  · replace h := (if_neg c8).symm.trans h
    refine s_aload_n hX dX10_run_22 rfl ?_
    refine s_iconst 0 hX dX10_run_23 (by decide) ?_
    obtain ⟨σ3, eσ3, h⟩ := bd_some h
    refine s_putZ hX fo_RX10_136_9 SH_123 rfl (Or.inl rfl) dX10_run_24 ?_
    refine s_mem σ3 eσ3 ?_
    refine s_aload_n hX dX10_run_27 rfl ?_
    refine s_iload_n hX dX10_run_28 rfl ?_
    refine s_iconst 2 hX dX10_run_29 (by decide) ?_
    obtain ⟨r4, σ5, hc, h⟩ := bn2_some h
    refine s_callVI _ hX (cX10_outcome_ok (sl X)  hc) SH_123 mv_RX10_374_9 (fun _ => rfl) (by decide) (Nat.le_of_ble_eq_true rfl) hcs dX10_run_30 rfl ?_
    obtain ⟨rfl, rfl⟩ := rt2 h
    exact hret _ _ (nzi _) dX10_run_33
  · replace h := (if_pos c8).symm.trans h
    refine s_aload_n hX dX10_run_16 rfl ?_
    refine s_iconst 1 hX dX10_run_17 (by decide) ?_
    obtain ⟨r6, σ7, hc, h⟩ := bn2_some h
    refine s_callVI _ hX (cX10_fails_ok (sl X)  hc) SH_123 mv_RX10_217_9 (fun _ => rfl) (by decide) (Nat.le_of_ble_eq_true rfl) hcs dX10_run_18 rfl ?_
    obtain ⟨rfl, rfl⟩ := rt2 h
    exact hret _ _ (nzi _) dX10_run_21
def fX10_runPlanned (σ : Mm) (l1 : Int32) : Option (Int32 × Mm) :=
  bd (upm σ 123 (upd (σ 123) 0 0)) fun σ1 =>
  (fX10_in σ1 l1 1 1000).bind fun r2 =>
  if r2 = 0 then
  bn2 (fX10_fails σ1 1) fun r9 σ10 =>
  some (r9, σ10)
else
  if (σ1 123 14) = 0 then
  bn2 (fX10_fails σ1 2) fun r6 σ7 =>
  some (r6, σ7)
else
  bd (upm σ1 123 (upd (σ1 123) 40 1)) fun σ3 =>
  bn2 (fX10_outcome σ3 l1 3) fun r4 σ5 =>
  some (r4, σ5)
set_option maxHeartbeats 4000000 in
theorem cX10_runPlanned_ok (l : Launch) {σ : Mm} {l1 : Int32} {r : Int32} {σ' : Mm}  (h : fX10_runPlanned σ l1 = some (r, σ')) : cI l yX10_runPlanned cX10_runPlanned 2 .int 6 138 (fun ad => [.ref (ad 123), .int l1]) σ r σ' := by
  refine c_enterI (fun ad => [some (.ref (ad 123)), some (.int l1)]) (by decide) (fun ad => ⟨by simp [Value.category], Nat.le_of_ble_eq_true rfl⟩) (fun ad => ⟨0, rfl⟩) ?_
  intro X _ hX hret
  have hcs : ((0 : Nat), (0 : Nat)).1 ≤ (sR X).cells ∧ ((0 : Nat), (0 : Nat)).2 ≤ (sR X).slots := ⟨Nat.zero_le _, Nat.zero_le _⟩
  generalize hcs0 : ((0 : Nat), (0 : Nat)) = cs at hcs hret ⊢
  unfold fX10_runPlanned at h
  show sW X 2 cs σ 0 [some (.ref (sad X 123)), some (.int l1)] []
  refine s_aload_n hX dX10_runPlanned_0 rfl ?_
  refine s_iconst 0 hX dX10_runPlanned_1 (by decide) ?_
  obtain ⟨σ1, eσ1, h⟩ := bd_some h
  refine s_putI hX fo_RX10_1_9 SH_123 rfl dX10_runPlanned_2 ?_
  refine s_mem σ1 eσ1 ?_
  refine s_iload_n hX dX10_runPlanned_5 rfl ?_
  refine s_iconst 1 hX dX10_runPlanned_6 (by decide) ?_
  refine s_sipush 1000 hX dX10_runPlanned_7 (by decide) ?_
  obtain ⟨r2, hc, h⟩ := bn_some h
  refine s_callSI _ hX (cX10_in_ok (sl X)  hc) ms_RX10_7 (fun _ => rfl) (by decide) (Nat.le_of_ble_eq_true rfl) hcs dX10_runPlanned_10 rfl ?_
  refine s_if_ne (tgt := 22) hX dX10_runPlanned_13 (by decide) (fun c11 => ?_) (fun c11 => ?_)
  · replace h := (if_neg c11).symm.trans h
    refine s_aload_n hX dX10_runPlanned_22 rfl ?_
    refine s_getI hX fo_RX10_57_9 SH_123 rfl dX10_runPlanned_23 ?_
    refine s_if_ne (tgt := 35) hX dX10_runPlanned_26 (by decide) (fun c8 => ?_) (fun c8 => ?_)
    · replace h := (if_neg c8).symm.trans h
      refine s_aload_n hX dX10_runPlanned_35 rfl ?_
      refine s_iconst 1 hX dX10_runPlanned_36 (by decide) ?_
      obtain ⟨σ3, eσ3, h⟩ := bd_some h
      refine s_putZ hX fo_RX10_136_9 SH_123 rfl (Or.inr rfl) dX10_runPlanned_37 ?_
      refine s_mem σ3 eσ3 ?_
      refine s_aload_n hX dX10_runPlanned_40 rfl ?_
      refine s_iload_n hX dX10_runPlanned_41 rfl ?_
      refine s_iconst 3 hX dX10_runPlanned_42 (by decide) ?_
      obtain ⟨r4, σ5, hc, h⟩ := bn2_some h
      refine s_callVI _ hX (cX10_outcome_ok (sl X)  hc) SH_123 mv_RX10_374_9 (fun _ => rfl) (by decide) (Nat.le_of_ble_eq_true rfl) hcs dX10_runPlanned_43 rfl ?_
      obtain ⟨rfl, rfl⟩ := rt2 h
      exact hret _ _ (nzi _) dX10_runPlanned_46
    · replace h := (if_pos c8).symm.trans h
      refine s_aload_n hX dX10_runPlanned_29 rfl ?_
      refine s_iconst 2 hX dX10_runPlanned_30 (by decide) ?_
      obtain ⟨r6, σ7, hc, h⟩ := bn2_some h
      refine s_callVI _ hX (cX10_fails_ok (sl X)  hc) SH_123 mv_RX10_217_9 (fun _ => rfl) (by decide) (Nat.le_of_ble_eq_true rfl) hcs dX10_runPlanned_31 rfl ?_
      obtain ⟨rfl, rfl⟩ := rt2 h
      exact hret _ _ (nzi _) dX10_runPlanned_34
  · replace h := (if_pos c11).symm.trans h
    refine s_aload_n hX dX10_runPlanned_16 rfl ?_
    refine s_iconst 1 hX dX10_runPlanned_17 (by decide) ?_
    obtain ⟨r9, σ10, hc, h⟩ := bn2_some h
    refine s_callVI _ hX (cX10_fails_ok (sl X)  hc) SH_123 mv_RX10_217_9 (fun _ => rfl) (by decide) (Nat.le_of_ble_eq_true rfl) hcs dX10_runPlanned_18 rfl ?_
    obtain ⟨rfl, rfl⟩ := rt2 h
    exact hret _ _ (nzi _) dX10_runPlanned_21
def fX10_executed (σ : Mm) (l1 : Int32) : Option (Int32 × Mm) :=
  bd (upm σ 123 (upd (σ 123) 0 0)) fun σ1 =>
  (fX10_in σ1 l1 0 3).bind fun r2 =>
  if r2 = 0 then
  bn2 (fX10_fails σ1 1) fun r3 σ4 =>
  some (r3, σ4)
else
  gd l1 4 <|
  some (σ1 149 l1.toNatClampNeg, σ1)
set_option maxHeartbeats 4000000 in
theorem cX10_executed_ok (l : Launch) {σ : Mm} {l1 : Int32} {r : Int32} {σ' : Mm}  (h : fX10_executed σ l1 = some (r, σ')) : cI l yX10_executed cX10_executed 2 .int 1 22 (fun ad => [.ref (ad 123), .int l1]) σ r σ' := by
  refine c_enterI (fun ad => [some (.ref (ad 123)), some (.int l1)]) (by decide) (fun ad => ⟨by simp [Value.category], Nat.le_of_ble_eq_true rfl⟩) (fun ad => ⟨0, rfl⟩) ?_
  intro X _ hX hret
  have hcs : ((0 : Nat), (0 : Nat)).1 ≤ (sR X).cells ∧ ((0 : Nat), (0 : Nat)).2 ≤ (sR X).slots := ⟨Nat.zero_le _, Nat.zero_le _⟩
  generalize hcs0 : ((0 : Nat), (0 : Nat)) = cs at hcs hret ⊢
  unfold fX10_executed at h
  show sW X 2 cs σ 0 [some (.ref (sad X 123)), some (.int l1)] []
  refine s_aload_n hX dX10_executed_0 rfl ?_
  refine s_iconst 0 hX dX10_executed_1 (by decide) ?_
  obtain ⟨σ1, eσ1, h⟩ := bd_some h
  refine s_putI hX fo_RX10_1_9 SH_123 rfl dX10_executed_2 ?_
  refine s_mem σ1 eσ1 ?_
  refine s_iload_n hX dX10_executed_5 rfl ?_
  refine s_iconst 0 hX dX10_executed_6 (by decide) ?_
  refine s_iconst 3 hX dX10_executed_7 (by decide) ?_
  obtain ⟨r2, hc, h⟩ := bn_some h
  refine s_callSI _ hX (cX10_in_ok (sl X)  hc) ms_RX10_7 (fun _ => rfl) (by decide) (Nat.le_of_ble_eq_true rfl) hcs dX10_executed_8 rfl ?_
  refine s_if_eq (tgt := 23) hX dX10_executed_11 (by decide) (fun c6 => ?_) (fun c6 => ?_)
  · replace h := (if_pos c6).symm.trans h
    refine s_aload_n hX dX10_executed_23 rfl ?_
    refine s_iconst 1 hX dX10_executed_24 (by decide) ?_
    obtain ⟨r3, σ4, hc, h⟩ := bn2_some h
    refine s_callVI _ hX (cX10_fails_ok (sl X)  hc) SH_123 mv_RX10_217_9 (fun _ => rfl) (by decide) (Nat.le_of_ble_eq_true rfl) hcs dX10_executed_25 rfl ?_
    obtain ⟨rfl, rfl⟩ := rt2 h
    exact hret _ _ (nzi _) dX10_executed_28
  · replace h := (if_neg c6).symm.trans h
    refine s_aload_n hX dX10_executed_14 rfl ?_
    refine s_getR (r := 149) hX fo_RX10_115_9 SH_123 rfl dX10_executed_15 ?_
    refine s_iload_n hX dX10_executed_18 rfl ?_
    obtain ⟨c5, h⟩ := gd_some h
    refine s_iald hX SH_149 c5 dX10_executed_19 ?_
    refine s_goto (tgt := 28) hX dX10_executed_20 (by decide) ?_
    obtain ⟨rfl, rfl⟩ := rt2 h
    exact hret _ _ (nzi _) dX10_executed_28
def fX10_visits (σ : Mm) (l1 : Int32) : Option (Int32 × Mm) :=
  bd (upm σ 123 (upd (σ 123) 0 0)) fun σ1 =>
  (fX10_isBlock σ1 l1).bind fun r2 =>
  if r2 = 0 then
  bn2 (fX10_fails σ1 1) fun r3 σ4 =>
  some (r3, σ4)
else
  gd l1 8 <|
  some (σ1 151 l1.toNatClampNeg, σ1)
set_option maxHeartbeats 4000000 in
theorem cX10_visits_ok (l : Launch) {σ : Mm} {l1 : Int32} {r : Int32} {σ' : Mm}  (h : fX10_visits σ l1 = some (r, σ')) : cI l yX10_visits cX10_visits 2 .int 2 43 (fun ad => [.ref (ad 123), .int l1]) σ r σ' := by
  refine c_enterI (fun ad => [some (.ref (ad 123)), some (.int l1)]) (by decide) (fun ad => ⟨by simp [Value.category], Nat.le_of_ble_eq_true rfl⟩) (fun ad => ⟨0, rfl⟩) ?_
  intro X _ hX hret
  have hcs : ((0 : Nat), (0 : Nat)).1 ≤ (sR X).cells ∧ ((0 : Nat), (0 : Nat)).2 ≤ (sR X).slots := ⟨Nat.zero_le _, Nat.zero_le _⟩
  generalize hcs0 : ((0 : Nat), (0 : Nat)) = cs at hcs hret ⊢
  unfold fX10_visits at h
  show sW X 2 cs σ 0 [some (.ref (sad X 123)), some (.int l1)] []
  refine s_aload_n hX dX10_visits_0 rfl ?_
  refine s_iconst 0 hX dX10_visits_1 (by decide) ?_
  obtain ⟨σ1, eσ1, h⟩ := bd_some h
  refine s_putI hX fo_RX10_1_9 SH_123 rfl dX10_visits_2 ?_
  refine s_mem σ1 eσ1 ?_
  refine s_aload_n hX dX10_visits_5 rfl ?_
  refine s_iload_n hX dX10_visits_6 rfl ?_
  obtain ⟨r2, hc, h⟩ := bn_some h
  refine s_callVI _ hX (cX10_isBlock_ok (sl X)  hc) SH_123 mv_RX10_221_9 (fun _ => rfl) (by decide) (Nat.le_of_ble_eq_true rfl) hcs dX10_visits_7 rfl ?_
  refine s_if_eq (tgt := 22) hX dX10_visits_10 (by decide) (fun c6 => ?_) (fun c6 => ?_)
  · replace h := (if_pos c6).symm.trans h
    refine s_aload_n hX dX10_visits_22 rfl ?_
    refine s_iconst 1 hX dX10_visits_23 (by decide) ?_
    obtain ⟨r3, σ4, hc, h⟩ := bn2_some h
    refine s_callVI _ hX (cX10_fails_ok (sl X)  hc) SH_123 mv_RX10_217_9 (fun _ => rfl) (by decide) (Nat.le_of_ble_eq_true rfl) hcs dX10_visits_24 rfl ?_
    obtain ⟨rfl, rfl⟩ := rt2 h
    exact hret _ _ (nzi _) dX10_visits_27
  · replace h := (if_neg c6).symm.trans h
    refine s_aload_n hX dX10_visits_13 rfl ?_
    refine s_getR (r := 151) hX fo_RX10_121_9 SH_123 rfl dX10_visits_14 ?_
    refine s_iload_n hX dX10_visits_17 rfl ?_
    obtain ⟨c5, h⟩ := gd_some h
    refine s_iald hX SH_151 c5 dX10_visits_18 ?_
    refine s_goto (tgt := 27) hX dX10_visits_19 (by decide) ?_
    obtain ⟨rfl, rfl⟩ := rt2 h
    exact hret _ _ (nzi _) dX10_visits_27
def gX10_profile_4  (rec : Mm × Int32 × Int32 → Option (Mm × Int32)) (σ : Mm) (x1 : Int32) (x2 : Int32) : Option (Mm × Int32) :=
  if (σ 123 1) ≤ x2 then
  some (σ, x1)
else
  gd x2 8 <|
  bd (mx 1 (σ 151 x2.toNatClampNeg)) fun v2 =>
  gd x2 8 <|
  jn (fun (v4 : Int32) => bd (x1 + v4) fun v6 =>
  gd x2 8 <|
  bd (upm σ 129 (upd (σ 129) x2.toNatClampNeg v2)) fun σ8 =>
  bd (x2 + 1) fun v9 =>
  rec (σ8, v6, v9)) fun j5 =>
  if v2 = (σ 129 x2.toNatClampNeg) then
  j5 0
else
  j5 1
def qX10_profile_4  : Nat → Mm × Int32 × Int32 → Option (Mm × Int32) := lp (fun rec s => gX10_profile_4  rec s.1 s.2.1 s.2.2)
def fX10_profile (σ : Mm) : Option (Int32 × Mm) :=
  bn2 (qX10_profile_4  FU (σ, 0, 0)) fun σ1 v2 =>
  bd (upm σ1 123 (upd (σ1 123) 14 0)) fun σ3 =>
  some (v2, σ3)
set_option maxHeartbeats 4000000 in
theorem pX10_profile_4 {X : sT} {cs : Nat × Nat} (hX : sX X cX10_profile RX10 4 1 40) (hcs : cs.1 ≤ (sR X).cells ∧ cs.2 ≤ (sR X).slots)   : ∀ (n : Nat) (s : Mm × Int32 × Int32) (r : Mm × Int32), qX10_profile_4  n s = some r → sW X 4 cs r.1 54 [some (.ref (sad X 123)), some (.int r.2), none, none] [] → sW X 4 cs s.1 4 [some (.ref (sad X 123)), some (.int s.2.1), some (.int s.2.2), none] [] := by
  refine lp_ind (P := fun (s : Mm × Int32 × Int32) (r : Mm × Int32) => sW X 4 cs r.1 54 [some (.ref (sad X 123)), some (.int r.2), none, none] [] → sW X 4 cs s.1 4 [some (.ref (sad X 123)), some (.int s.2.1), some (.int s.2.2), none] []) ?_
  intro rec hrec s r h0 hk
  obtain ⟨σ, x1, x2⟩ := s
  have h : gX10_profile_4  rec σ x1 x2 = some r := h0
  unfold gX10_profile_4 at h
  show sW X 4 cs σ 4 [some (.ref (sad X 123)), some (.int x1), some (.int x2), none] []
  refine s_iload_n hX dX10_profile_4 rfl ?_
  refine s_aload_n hX dX10_profile_5 rfl ?_
  refine s_getI hX fo_RX10_17_9 SH_123 rfl dX10_profile_6 ?_
  refine s_ic_ge (tgt := 54) hX dX10_profile_9 (by decide) (fun c11 => ?_) (fun c11 => ?_)
  · replace h := (if_pos c11).symm.trans h
    obtain rfl := rt1 h
    refine s_mask [true, true, false, false] ?_
    exact hk
  · replace h := (if_neg c11).symm.trans h
    refine s_iconst 1 hX dX10_profile_12 (by decide) ?_
    refine s_aload_n hX dX10_profile_13 rfl ?_
    refine s_getR (r := 151) hX fo_RX10_121_9 SH_123 rfl dX10_profile_14 ?_
    refine s_iload_n hX dX10_profile_17 rfl ?_
    obtain ⟨c1, h⟩ := gd_some h
    refine s_iald hX SH_151 c1 dX10_profile_18 ?_
    refine s_max hX w7_169 (by decide) (Nat.le_of_ble_eq_true rfl) hcs dX10_profile_19 ?_
    obtain ⟨v2, ev2, h⟩ := bd_some h
    refine s_topi v2 ev2 ?_
    refine s_istore_n hX dX10_profile_22 (by decide) ?_
    refine s_iload_n hX dX10_profile_23 rfl ?_
    refine s_iload_n hX dX10_profile_24 rfl ?_
    refine s_aload_n hX dX10_profile_25 rfl ?_
    refine s_getR (r := 129) hX fo_RX10_39_9 SH_123 rfl dX10_profile_26 ?_
    refine s_iload_n hX dX10_profile_29 rfl ?_
    obtain ⟨c3, h⟩ := gd_some h
    refine s_iald hX SH_129 c3 dX10_profile_30 ?_
    refine jn_use (fun j => ∀ (v4 : Int32), j v4 = some r → sW X 4 cs σ 39 [some (.ref (sad X 123)), none, some (.int x2), some (.int v2)] [.int v4, .int x1]) h ?_ ?_
    · intro v4 h
      refine s_iadd hX dX10_profile_39 ?_
      obtain ⟨v6, ev6, h⟩ := bd_some h
      refine s_topi v6 ev6 ?_
      refine s_istore_n hX dX10_profile_40 (by decide) ?_
      refine s_aload_n hX dX10_profile_41 rfl ?_
      refine s_getR (r := 129) hX fo_RX10_39_9 SH_123 rfl dX10_profile_42 ?_
      refine s_iload_n hX dX10_profile_45 rfl ?_
      refine s_iload_n hX dX10_profile_46 rfl ?_
      obtain ⟨c7, h⟩ := gd_some h
      obtain ⟨σ8, eσ8, h⟩ := bd_some h
      refine s_iast hX SH_129 c7 dX10_profile_47 ?_
      refine s_mem σ8 eσ8 ?_
      obtain ⟨v9, ev9, h⟩ := bd_some h
      refine s_iinc v9 hX dX10_profile_48 rfl (by rw [ev9]; rfl) (by decide) ?_
      refine s_goto (tgt := 4) hX dX10_profile_51 (by decide) ?_
      refine s_mask [true, true, true, false] ?_
      exact hrec _ _ h hk
    · intro j5 hj5 h
      refine s_ic_eq (tgt := 38) hX dX10_profile_31 (by decide) (fun c10 => ?_) (fun c10 => ?_)
      · replace h := (if_pos c10).symm.trans h
        refine s_iconst 0 hX dX10_profile_38 (by decide) ?_
        refine s_mask [true, false, true, true] ?_
        exact hj5 _ h
      · replace h := (if_neg c10).symm.trans h
        refine s_iconst 1 hX dX10_profile_34 (by decide) ?_
        refine s_goto (tgt := 39) hX dX10_profile_35 (by decide) ?_
        refine s_mask [true, false, true, true] ?_
        exact hj5 _ h
set_option maxHeartbeats 4000000 in
theorem cX10_profile_ok (l : Launch) {σ : Mm} {r : Int32} {σ' : Mm}  (h : fX10_profile σ = some (r, σ')) : cI l yX10_profile cX10_profile 4 .int 1 40 (fun ad => [.ref (ad 123)]) σ r σ' := by
  refine c_enterI (fun ad => [some (.ref (ad 123)), none, none, none]) (by decide) (fun ad => ⟨by simp [Value.category], Nat.le_of_ble_eq_true rfl⟩) (fun ad => ⟨3, rfl⟩) ?_
  intro X _ hX hret
  have hcs : ((0 : Nat), (0 : Nat)).1 ≤ (sR X).cells ∧ ((0 : Nat), (0 : Nat)).2 ≤ (sR X).slots := ⟨Nat.zero_le _, Nat.zero_le _⟩
  generalize hcs0 : ((0 : Nat), (0 : Nat)) = cs at hcs hret ⊢
  unfold fX10_profile at h
  show sW X 4 cs σ 0 [some (.ref (sad X 123)), none, none, none] []
  refine s_iconst 0 hX dX10_profile_0 (by decide) ?_
  refine s_istore_n hX dX10_profile_1 (by decide) ?_
  refine s_iconst 0 hX dX10_profile_2 (by decide) ?_
  refine s_istore_n hX dX10_profile_3 (by decide) ?_
  obtain ⟨σ1, v2, hc, h⟩ := bn2_some h
  refine s_mask [true, true, true, false] ?_
  refine pX10_profile_4 hX hcs  _ _ _ hc ?_
  refine s_aload_n hX dX10_profile_54 rfl ?_
  refine s_iconst 0 hX dX10_profile_55 (by decide) ?_
  obtain ⟨σ3, eσ3, h⟩ := bd_some h
  refine s_putZ hX fo_RX10_57_9 SH_123 rfl (Or.inl rfl) dX10_profile_56 ?_
  refine s_mem σ3 eσ3 ?_
  refine s_iload_n hX dX10_profile_59 rfl ?_
  obtain ⟨rfl, rfl⟩ := rt2 h
  exact hret _ _ (nzi _) dX10_profile_60
def fX10_feed (σ : Mm) (l1 : Int32) : Option (Int32 × Mm) :=
  bd (upm σ 123 (upd (σ 123) 0 0)) fun σ1 =>
  if (σ1 123 43) = 80 then
  bn2 (fX10_fails σ1 1) fun r5 σ6 =>
  some (r5, σ6)
else
  gd (σ1 123 43) 80 <|
  bd (upm σ1 154 (upd (σ1 154) (σ1 123 43).toNatClampNeg l1)) fun σ3 =>
  bd (upm σ3 123 (upd (σ3 123) 43 ((σ3 123 43) + 1))) fun σ4 =>
  some (σ4 123 43, σ4)
set_option maxHeartbeats 4000000 in
theorem cX10_feed_ok (l : Launch) {σ : Mm} {l1 : Int32} {r : Int32} {σ' : Mm}  (h : fX10_feed σ l1 = some (r, σ')) : cI l yX10_feed cX10_feed 2 .int 1 21 (fun ad => [.ref (ad 123), .int l1]) σ r σ' := by
  refine c_enterI (fun ad => [some (.ref (ad 123)), some (.int l1)]) (by decide) (fun ad => ⟨by simp [Value.category], Nat.le_of_ble_eq_true rfl⟩) (fun ad => ⟨0, rfl⟩) ?_
  intro X _ hX hret
  have hcs : ((0 : Nat), (0 : Nat)).1 ≤ (sR X).cells ∧ ((0 : Nat), (0 : Nat)).2 ≤ (sR X).slots := ⟨Nat.zero_le _, Nat.zero_le _⟩
  generalize hcs0 : ((0 : Nat), (0 : Nat)) = cs at hcs hret ⊢
  unfold fX10_feed at h
  show sW X 2 cs σ 0 [some (.ref (sad X 123)), some (.int l1)] []
  refine s_aload_n hX dX10_feed_0 rfl ?_
  refine s_iconst 0 hX dX10_feed_1 (by decide) ?_
  obtain ⟨σ1, eσ1, h⟩ := bd_some h
  refine s_putI hX fo_RX10_1_9 SH_123 rfl dX10_feed_2 ?_
  refine s_mem σ1 eσ1 ?_
  refine s_aload_n hX dX10_feed_5 rfl ?_
  refine s_getI hX fo_RX10_145_9 SH_123 rfl dX10_feed_6 ?_
  refine s_bipush 80 hX dX10_feed_9 (by decide) ?_
  refine s_ic_ne (tgt := 20) hX dX10_feed_11 (by decide) (fun c7 => ?_) (fun c7 => ?_)
  · replace h := (if_neg c7).symm.trans h
    refine s_aload_n hX dX10_feed_20 rfl ?_
    refine s_getR (r := 154) hX fo_RX10_142_9 SH_123 rfl dX10_feed_21 ?_
    refine s_aload_n hX dX10_feed_24 rfl ?_
    refine s_getI hX fo_RX10_145_9 SH_123 rfl dX10_feed_25 ?_
    refine s_iload_n hX dX10_feed_28 rfl ?_
    obtain ⟨c2, h⟩ := gd_some h
    obtain ⟨σ3, eσ3, h⟩ := bd_some h
    refine s_iast hX SH_154 c2 dX10_feed_29 ?_
    refine s_mem σ3 eσ3 ?_
    refine s_aload_n hX dX10_feed_30 rfl ?_
    refine s_dup hX dX10_feed_31 rfl ?_
    refine s_getI hX fo_RX10_145_9 SH_123 rfl dX10_feed_32 ?_
    refine s_iconst 1 hX dX10_feed_35 (by decide) ?_
    refine s_iadd hX dX10_feed_36 ?_
    obtain ⟨σ4, eσ4, h⟩ := bd_some h
    refine s_putI hX fo_RX10_145_9 SH_123 rfl dX10_feed_37 ?_
    refine s_mem σ4 eσ4 ?_
    refine s_aload_n hX dX10_feed_40 rfl ?_
    refine s_getI hX fo_RX10_145_9 SH_123 rfl dX10_feed_41 ?_
    obtain ⟨rfl, rfl⟩ := rt2 h
    exact hret _ _ (nzi _) dX10_feed_44
  · replace h := (if_pos c7).symm.trans h
    refine s_aload_n hX dX10_feed_14 rfl ?_
    refine s_iconst 1 hX dX10_feed_15 (by decide) ?_
    obtain ⟨r5, σ6, hc, h⟩ := bn2_some h
    refine s_callVI _ hX (cX10_fails_ok (sl X)  hc) SH_123 mv_RX10_217_9 (fun _ => rfl) (by decide) (Nat.le_of_ble_eq_true rfl) hcs dX10_feed_16 rfl ?_
    obtain ⟨rfl, rfl⟩ := rt2 h
    exact hret _ _ (nzi _) dX10_feed_19
def fX10_sign (σ : Mm) : Option Int32 :=
  if (σ 123 45) = 0 then
  if (σ 123 43) ≤ (σ 123 44) then
  some (-1)
else
  gd (σ 123 44) 80 <|
  some (σ 154 (σ 123 44).toNatClampNeg)
else
  some (-1)
set_option maxHeartbeats 4000000 in
theorem cX10_sign_ok (l : Launch) {σ : Mm} {r : Int32}  (h : fX10_sign σ = some r) : cI l yX10_sign cX10_sign 1 .int 0 0 (fun ad => [.ref (ad 123)]) σ r σ := by
  refine c_enterI (fun ad => [some (.ref (ad 123))]) (by decide) (fun ad => ⟨by simp [Value.category], Nat.le_of_ble_eq_true rfl⟩) (fun ad => ⟨0, rfl⟩) ?_
  intro X _ hX hret
  have hcs : ((0 : Nat), (0 : Nat)).1 ≤ (sR X).cells ∧ ((0 : Nat), (0 : Nat)).2 ≤ (sR X).slots := ⟨Nat.zero_le _, Nat.zero_le _⟩
  generalize hcs0 : ((0 : Nat), (0 : Nat)) = cs at hcs hret ⊢
  unfold fX10_sign at h
  show sW X 1 cs σ 0 [some (.ref (sad X 123))] []
  refine s_aload_n hX dX10_sign_0 rfl ?_
  refine s_getI hX fo_RX10_151_9 SH_123 rfl dX10_sign_1 ?_
  refine s_if_ne (tgt := 30) hX dX10_sign_4 (by decide) (fun c3 => ?_) (fun c3 => ?_)
  · replace h := (if_neg c3).symm.trans h
    refine s_iconst (-1) hX dX10_sign_30 (by decide) ?_
    obtain rfl := rt1 h
    exact hret _ _ (nzi _) dX10_sign_31
  · replace h := (if_pos c3).symm.trans h
    refine s_aload_n hX dX10_sign_7 rfl ?_
    refine s_getI hX fo_RX10_148_9 SH_123 rfl dX10_sign_8 ?_
    refine s_aload_n hX dX10_sign_11 rfl ?_
    refine s_getI hX fo_RX10_145_9 SH_123 rfl dX10_sign_12 ?_
    refine s_ic_ge (tgt := 30) hX dX10_sign_15 (by decide) (fun c2 => ?_) (fun c2 => ?_)
    · replace h := (if_pos c2).symm.trans h
      refine s_iconst (-1) hX dX10_sign_30 (by decide) ?_
      obtain rfl := rt1 h
      exact hret _ _ (nzi _) dX10_sign_31
    · replace h := (if_neg c2).symm.trans h
      refine s_aload_n hX dX10_sign_18 rfl ?_
      refine s_getR (r := 154) hX fo_RX10_142_9 SH_123 rfl dX10_sign_19 ?_
      refine s_aload_n hX dX10_sign_22 rfl ?_
      refine s_getI hX fo_RX10_148_9 SH_123 rfl dX10_sign_23 ?_
      obtain ⟨c1, h⟩ := gd_some h
      refine s_iald hX SH_154 c1 dX10_sign_26 ?_
      refine s_goto (tgt := 31) hX dX10_sign_27 (by decide) ?_
      obtain rfl := rt1 h
      exact hret _ _ (nzi _) dX10_sign_31
def fX10_takes (σ : Mm) (l1 : Int32) (l2 : Int32) : Option (Int32 × Mm) :=
  (fX10_sign σ).bind fun r1 =>
  (fX10_in σ r1 l1 l2).bind fun r2 =>
  if r2 = 0 then
  bd (upm σ 123 (upd (σ 123) 45 1)) fun σ4 =>
  some (0, σ4)
else
  bd (upm σ 123 (upd (σ 123) 44 ((σ 123 44) + 1))) fun σ3 =>
  some (r1 - l1, σ3)
set_option maxHeartbeats 4000000 in
theorem cX10_takes_ok (l : Launch) {σ : Mm} {l1 : Int32} {l2 : Int32} {r : Int32} {σ' : Mm}  (h : fX10_takes σ l1 l2 = some (r, σ')) : cI l yX10_takes cX10_takes 4 .int 1 22 (fun ad => [.ref (ad 123), .int l1, .int l2]) σ r σ' := by
  refine c_enterI (fun ad => [some (.ref (ad 123)), some (.int l1), some (.int l2), none]) (by decide) (fun ad => ⟨by simp [Value.category], Nat.le_of_ble_eq_true rfl⟩) (fun ad => ⟨1, rfl⟩) ?_
  intro X _ hX hret
  have hcs : ((0 : Nat), (0 : Nat)).1 ≤ (sR X).cells ∧ ((0 : Nat), (0 : Nat)).2 ≤ (sR X).slots := ⟨Nat.zero_le _, Nat.zero_le _⟩
  generalize hcs0 : ((0 : Nat), (0 : Nat)) = cs at hcs hret ⊢
  unfold fX10_takes at h
  show sW X 4 cs σ 0 [some (.ref (sad X 123)), some (.int l1), some (.int l2), none] []
  refine s_aload_n hX dX10_takes_0 rfl ?_
  obtain ⟨r1, hc, h⟩ := bn_some h
  refine s_callVI _ hX (cX10_sign_ok (sl X)  hc) SH_123 mv_RX10_377_9 (fun _ => rfl) (by decide) (Nat.le_of_ble_eq_true rfl) hcs dX10_takes_1 rfl ?_
  refine s_istore_n hX dX10_takes_4 (by decide) ?_
  refine s_iload_n hX dX10_takes_5 rfl ?_
  refine s_iload_n hX dX10_takes_6 rfl ?_
  refine s_iload_n hX dX10_takes_7 rfl ?_
  obtain ⟨r2, hc, h⟩ := bn_some h
  refine s_callSI _ hX (cX10_in_ok (sl X)  hc) ms_RX10_7 (fun _ => rfl) (by decide) (Nat.le_of_ble_eq_true rfl) hcs dX10_takes_8 rfl ?_
  refine s_if_ne (tgt := 21) hX dX10_takes_11 (by decide) (fun c5 => ?_) (fun c5 => ?_)
  · replace h := (if_neg c5).symm.trans h
    refine s_aload_n hX dX10_takes_21 rfl ?_
    refine s_dup hX dX10_takes_22 rfl ?_
    refine s_getI hX fo_RX10_148_9 SH_123 rfl dX10_takes_23 ?_
    refine s_iconst 1 hX dX10_takes_26 (by decide) ?_
    refine s_iadd hX dX10_takes_27 ?_
    obtain ⟨σ3, eσ3, h⟩ := bd_some h
    refine s_putI hX fo_RX10_148_9 SH_123 rfl dX10_takes_28 ?_
    refine s_mem σ3 eσ3 ?_
    refine s_iload_n hX dX10_takes_31 rfl ?_
    refine s_iload_n hX dX10_takes_32 rfl ?_
    refine s_isub hX dX10_takes_33 ?_
    obtain ⟨rfl, rfl⟩ := rt2 h
    exact hret _ _ (nzi _) dX10_takes_34
  · replace h := (if_pos c5).symm.trans h
    refine s_aload_n hX dX10_takes_14 rfl ?_
    refine s_iconst 1 hX dX10_takes_15 (by decide) ?_
    obtain ⟨σ4, eσ4, h⟩ := bd_some h
    refine s_putZ hX fo_RX10_151_9 SH_123 rfl (Or.inr rfl) dX10_takes_16 ?_
    refine s_mem σ4 eσ4 ?_
    refine s_iconst 0 hX dX10_takes_19 (by decide) ?_
    obtain ⟨rfl, rfl⟩ := rt2 h
    exact hret _ _ (nzi _) dX10_takes_20
def fX10_variable (σ : Mm) : Option (Int32 × Mm) :=
  bn2 (fX10_takes σ 97 108) fun r1 σ2 =>
  some (r1, σ2)
set_option maxHeartbeats 4000000 in
theorem cX10_variable_ok (l : Launch) {σ : Mm} {r : Int32} {σ' : Mm}  (h : fX10_variable σ = some (r, σ')) : cI l yX10_variable cX10_variable 1 .int 2 45 (fun ad => [.ref (ad 123)]) σ r σ' := by
  refine c_enterI (fun ad => [some (.ref (ad 123))]) (by decide) (fun ad => ⟨by simp [Value.category], Nat.le_of_ble_eq_true rfl⟩) (fun ad => ⟨0, rfl⟩) ?_
  intro X _ hX hret
  have hcs : ((0 : Nat), (0 : Nat)).1 ≤ (sR X).cells ∧ ((0 : Nat), (0 : Nat)).2 ≤ (sR X).slots := ⟨Nat.zero_le _, Nat.zero_le _⟩
  generalize hcs0 : ((0 : Nat), (0 : Nat)) = cs at hcs hret ⊢
  unfold fX10_variable at h
  show sW X 1 cs σ 0 [some (.ref (sad X 123))] []
  refine s_aload_n hX dX10_variable_0 rfl ?_
  refine s_bipush 97 hX dX10_variable_1 (by decide) ?_
  refine s_bipush 108 hX dX10_variable_3 (by decide) ?_
  obtain ⟨r1, σ2, hc, h⟩ := bn2_some h
  refine s_callVI _ hX (cX10_takes_ok (sl X)  hc) SH_123 mv_RX10_380_9 (fun _ => rfl) (by decide) (Nat.le_of_ble_eq_true rfl) hcs dX10_variable_5 rfl ?_
  obtain ⟨rfl, rfl⟩ := rt2 h
  exact hret _ _ (nzi _) dX10_variable_8
def fX10_blockDigit (σ : Mm) : Option (Int32 × Mm) :=
  bn2 (fX10_takes σ 48 ((48 + (σ 123 1)) - 1)) fun r1 σ2 =>
  some (r1, σ2)
set_option maxHeartbeats 4000000 in
theorem cX10_blockDigit_ok (l : Launch) {σ : Mm} {r : Int32} {σ' : Mm}  (h : fX10_blockDigit σ = some (r, σ')) : cI l yX10_blockDigit cX10_blockDigit 1 .int 2 45 (fun ad => [.ref (ad 123)]) σ r σ' := by
  refine c_enterI (fun ad => [some (.ref (ad 123))]) (by decide) (fun ad => ⟨by simp [Value.category], Nat.le_of_ble_eq_true rfl⟩) (fun ad => ⟨0, rfl⟩) ?_
  intro X _ hX hret
  have hcs : ((0 : Nat), (0 : Nat)).1 ≤ (sR X).cells ∧ ((0 : Nat), (0 : Nat)).2 ≤ (sR X).slots := ⟨Nat.zero_le _, Nat.zero_le _⟩
  generalize hcs0 : ((0 : Nat), (0 : Nat)) = cs at hcs hret ⊢
  unfold fX10_blockDigit at h
  show sW X 1 cs σ 0 [some (.ref (sad X 123))] []
  refine s_aload_n hX dX10_blockDigit_0 rfl ?_
  refine s_bipush 48 hX dX10_blockDigit_1 (by decide) ?_
  refine s_bipush 48 hX dX10_blockDigit_3 (by decide) ?_
  refine s_aload_n hX dX10_blockDigit_5 rfl ?_
  refine s_getI hX fo_RX10_17_9 SH_123 rfl dX10_blockDigit_6 ?_
  refine s_iadd hX dX10_blockDigit_9 ?_
  refine s_iconst 1 hX dX10_blockDigit_10 (by decide) ?_
  refine s_isub hX dX10_blockDigit_11 ?_
  obtain ⟨r1, σ2, hc, h⟩ := bn2_some h
  refine s_callVI _ hX (cX10_takes_ok (sl X)  hc) SH_123 mv_RX10_380_9 (fun _ => rfl) (by decide) (Nat.le_of_ble_eq_true rfl) hcs dX10_blockDigit_12 rfl ?_
  obtain ⟨rfl, rfl⟩ := rt2 h
  exact hret _ _ (nzi _) dX10_blockDigit_15
def fX10_blank (σ : Mm) : Option (Int32 × Mm) :=
  bn2 (fX10_takes σ 32 32) fun r1 σ2 =>
  some (r1, σ2)
set_option maxHeartbeats 4000000 in
theorem cX10_blank_ok (l : Launch) {σ : Mm} {r : Int32} {σ' : Mm}  (h : fX10_blank σ = some (r, σ')) : cI l yX10_blank cX10_blank 1 .int 2 45 (fun ad => [.ref (ad 123)]) σ r σ' := by
  refine c_enterI (fun ad => [some (.ref (ad 123))]) (by decide) (fun ad => ⟨by simp [Value.category], Nat.le_of_ble_eq_true rfl⟩) (fun ad => ⟨0, rfl⟩) ?_
  intro X _ hX hret
  have hcs : ((0 : Nat), (0 : Nat)).1 ≤ (sR X).cells ∧ ((0 : Nat), (0 : Nat)).2 ≤ (sR X).slots := ⟨Nat.zero_le _, Nat.zero_le _⟩
  generalize hcs0 : ((0 : Nat), (0 : Nat)) = cs at hcs hret ⊢
  unfold fX10_blank at h
  show sW X 1 cs σ 0 [some (.ref (sad X 123))] []
  refine s_aload_n hX dX10_blank_0 rfl ?_
  refine s_bipush 32 hX dX10_blank_1 (by decide) ?_
  refine s_bipush 32 hX dX10_blank_3 (by decide) ?_
  obtain ⟨r1, σ2, hc, h⟩ := bn2_some h
  refine s_callVI _ hX (cX10_takes_ok (sl X)  hc) SH_123 mv_RX10_380_9 (fun _ => rfl) (by decide) (Nat.le_of_ble_eq_true rfl) hcs dX10_blank_5 rfl ?_
  obtain ⟨rfl, rfl⟩ := rt2 h
  exact hret _ _ (nzi _) dX10_blank_8
def gX10_readNumber_11 (l1 : Int32) (rec : Mm × Int32 × Int32 → Option (Mm × Int32)) (σ : Mm) (x2 : Int32) (x3 : Int32) : Option (Mm × Int32) :=
  if 3 ≤ x3 then
  some (σ, x2)
else
  (fX10_sign σ).bind fun r1 =>
  (fX10_in σ r1 48 57).bind fun r2 =>
  if r2 = 0 then
  some (σ, x2)
else
  bn2 (fX10_takes σ 48 57) fun r3 σ4 =>
  bd ((10 * x2) + r3) fun v5 =>
  bd (x3 + 1) fun v6 =>
  rec (σ4, v5, v6)
def qX10_readNumber_11 (l1 : Int32) : Nat → Mm × Int32 × Int32 → Option (Mm × Int32) := lp (fun rec s => gX10_readNumber_11 l1 rec s.1 s.2.1 s.2.2)
def fX10_readNumber (σ : Mm) (l1 : Int32) : Option Mm :=
  bn2 (fX10_takes σ 48 57) fun r1 σ2 =>
  bn2 (qX10_readNumber_11 l1 FU (σ2, r1, 1)) fun σ3 v4 =>
  gd (σ3 123 50) 8 <|
  bd (upm σ3 155 (upd (σ3 155) (σ3 123 50).toNatClampNeg 0)) fun σ6 =>
  if l1 = 0 then
  gd (σ6 123 50) 8 <|
  bd (upm σ6 157 (upd (σ6 157) (σ6 123 50).toNatClampNeg v4)) fun σ8 =>
  some σ8
else
  gd (σ6 123 50) 8 <|
  bd (upm σ6 157 (upd (σ6 157) (σ6 123 50).toNatClampNeg (-v4))) fun σ10 =>
  some σ10
set_option maxHeartbeats 4000000 in
theorem pX10_readNumber_11 {X : sT} {cs : Nat × Nat} (hX : sX X cX10_readNumber RX10 4 2 45) (hcs : cs.1 ≤ (sR X).cells ∧ cs.2 ≤ (sR X).slots) (l1 : Int32)  : ∀ (n : Nat) (s : Mm × Int32 × Int32) (r : Mm × Int32), qX10_readNumber_11 l1 n s = some r → sW X 4 cs r.1 50 [some (.ref (sad X 123)), some (.int l1), some (.int r.2), none] [] → sW X 4 cs s.1 11 [some (.ref (sad X 123)), some (.int l1), some (.int s.2.1), some (.int s.2.2)] [] := by
  refine lp_ind (P := fun (s : Mm × Int32 × Int32) (r : Mm × Int32) => sW X 4 cs r.1 50 [some (.ref (sad X 123)), some (.int l1), some (.int r.2), none] [] → sW X 4 cs s.1 11 [some (.ref (sad X 123)), some (.int l1), some (.int s.2.1), some (.int s.2.2)] []) ?_
  intro rec hrec s r h0 hk
  obtain ⟨σ, x2, x3⟩ := s
  have h : gX10_readNumber_11 l1 rec σ x2 x3 = some r := h0
  unfold gX10_readNumber_11 at h
  show sW X 4 cs σ 11 [some (.ref (sad X 123)), some (.int l1), some (.int x2), some (.int x3)] []
  refine s_iload_n hX dX10_readNumber_11 rfl ?_
  refine s_iconst 3 hX dX10_readNumber_12 (by decide) ?_
  refine s_ic_ge (tgt := 50) hX dX10_readNumber_13 (by decide) (fun c8 => ?_) (fun c8 => ?_)
  · replace h := (if_pos c8).symm.trans h
    obtain rfl := rt1 h
    refine s_mask [true, true, true, false] ?_
    exact hk
  · replace h := (if_neg c8).symm.trans h
    refine s_aload_n hX dX10_readNumber_16 rfl ?_
    obtain ⟨r1, hc, h⟩ := bn_some h
    refine s_callVI _ hX (cX10_sign_ok (sl X)  hc) SH_123 mv_RX10_377_9 (fun _ => rfl) (by decide) (Nat.le_of_ble_eq_true rfl) hcs dX10_readNumber_17 rfl ?_
    refine s_bipush 48 hX dX10_readNumber_20 (by decide) ?_
    refine s_bipush 57 hX dX10_readNumber_22 (by decide) ?_
    obtain ⟨r2, hc, h⟩ := bn_some h
    refine s_callSI _ hX (cX10_in_ok (sl X)  hc) ms_RX10_7 (fun _ => rfl) (by decide) (Nat.le_of_ble_eq_true rfl) hcs dX10_readNumber_24 rfl ?_
    refine s_if_eq (tgt := 50) hX dX10_readNumber_27 (by decide) (fun c7 => ?_) (fun c7 => ?_)
    · replace h := (if_pos c7).symm.trans h
      obtain rfl := rt1 h
      refine s_mask [true, true, true, false] ?_
      exact hk
    · replace h := (if_neg c7).symm.trans h
      refine s_bipush 10 hX dX10_readNumber_30 (by decide) ?_
      refine s_iload_n hX dX10_readNumber_32 rfl ?_
      refine s_imul hX dX10_readNumber_33 ?_
      refine s_aload_n hX dX10_readNumber_34 rfl ?_
      refine s_bipush 48 hX dX10_readNumber_35 (by decide) ?_
      refine s_bipush 57 hX dX10_readNumber_37 (by decide) ?_
      obtain ⟨r3, σ4, hc, h⟩ := bn2_some h
      refine s_callVI _ hX (cX10_takes_ok (sl X)  hc) SH_123 mv_RX10_380_9 (fun _ => rfl) (by decide) (Nat.le_of_ble_eq_true rfl) hcs dX10_readNumber_39 rfl ?_
      refine s_iadd hX dX10_readNumber_42 ?_
      obtain ⟨v5, ev5, h⟩ := bd_some h
      refine s_topi v5 ev5 ?_
      refine s_istore_n hX dX10_readNumber_43 (by decide) ?_
      obtain ⟨v6, ev6, h⟩ := bd_some h
      refine s_iinc v6 hX dX10_readNumber_44 rfl (by rw [ev6]; rfl) (by decide) ?_
      refine s_goto (tgt := 11) hX dX10_readNumber_47 (by decide) ?_
      refine s_mask [true, true, true, true] ?_
      exact hrec _ _ h hk
set_option maxHeartbeats 4000000 in
theorem cX10_readNumber_ok (l : Launch) {σ : Mm} {l1 : Int32} {σ' : Mm}  (h : fX10_readNumber σ l1 = some σ') : cV l yX10_readNumber cX10_readNumber 4 2 45 (fun ad => [.ref (ad 123), .int l1]) σ σ' := by
  refine c_enterV (fun ad => [some (.ref (ad 123)), some (.int l1), none, none]) (by decide) (fun ad => ⟨by simp [Value.category], Nat.le_of_ble_eq_true rfl⟩) (fun ad => ⟨2, rfl⟩) ?_
  intro X _ hX hret
  have hcs : ((0 : Nat), (0 : Nat)).1 ≤ (sR X).cells ∧ ((0 : Nat), (0 : Nat)).2 ≤ (sR X).slots := ⟨Nat.zero_le _, Nat.zero_le _⟩
  generalize hcs0 : ((0 : Nat), (0 : Nat)) = cs at hcs hret ⊢
  unfold fX10_readNumber at h
  show sW X 4 cs σ 0 [some (.ref (sad X 123)), some (.int l1), none, none] []
  refine s_aload_n hX dX10_readNumber_0 rfl ?_
  refine s_bipush 48 hX dX10_readNumber_1 (by decide) ?_
  refine s_bipush 57 hX dX10_readNumber_3 (by decide) ?_
  obtain ⟨r1, σ2, hc, h⟩ := bn2_some h
  refine s_callVI _ hX (cX10_takes_ok (sl X)  hc) SH_123 mv_RX10_380_9 (fun _ => rfl) (by decide) (Nat.le_of_ble_eq_true rfl) hcs dX10_readNumber_5 rfl ?_
  refine s_istore_n hX dX10_readNumber_8 (by decide) ?_
  refine s_iconst 1 hX dX10_readNumber_9 (by decide) ?_
  refine s_istore_n hX dX10_readNumber_10 (by decide) ?_
  obtain ⟨σ3, v4, hc, h⟩ := bn2_some h
  refine s_mask [true, true, true, true] ?_
  refine pX10_readNumber_11 hX hcs _ _ _ _ hc ?_
  refine s_aload_n hX dX10_readNumber_50 rfl ?_
  refine s_getR (r := 155) hX fo_RX10_154_9 SH_123 rfl dX10_readNumber_51 ?_
  refine s_aload_n hX dX10_readNumber_54 rfl ?_
  refine s_getI hX fo_RX10_166_9 SH_123 rfl dX10_readNumber_55 ?_
  refine s_iconst 0 hX dX10_readNumber_58 (by decide) ?_
  obtain ⟨c5, h⟩ := gd_some h
  obtain ⟨σ6, eσ6, h⟩ := bd_some h
  refine s_iast hX SH_155 c5 dX10_readNumber_59 ?_
  refine s_mem σ6 eσ6 ?_
  refine s_aload_n hX dX10_readNumber_60 rfl ?_
  refine s_getR (r := 157) hX fo_RX10_160_9 SH_123 rfl dX10_readNumber_61 ?_
  refine s_aload_n hX dX10_readNumber_64 rfl ?_
  refine s_getI hX fo_RX10_166_9 SH_123 rfl dX10_readNumber_65 ?_
  refine s_iload_n hX dX10_readNumber_68 rfl ?_
  refine s_if_eq (tgt := 77) hX dX10_readNumber_69 (by decide) (fun c11 => ?_) (fun c11 => ?_)
  · replace h := (if_pos c11).symm.trans h
    refine s_iload_n hX dX10_readNumber_77 rfl ?_
    obtain ⟨c7, h⟩ := gd_some h
    obtain ⟨σ8, eσ8, h⟩ := bd_some h
    refine s_iast hX SH_157 c7 dX10_readNumber_78 ?_
    refine s_mem σ8 eσ8 ?_
    obtain rfl := rt1 h
    exact hret _ _ dX10_readNumber_79
  · replace h := (if_neg c11).symm.trans h
    refine s_iload_n hX dX10_readNumber_72 rfl ?_
    refine s_ineg hX dX10_readNumber_73 ?_
    refine s_goto (tgt := 78) hX dX10_readNumber_74 (by decide) ?_
    obtain ⟨c9, h⟩ := gd_some h
    obtain ⟨σ10, eσ10, h⟩ := bd_some h
    refine s_iast hX SH_157 c9 dX10_readNumber_78 ?_
    refine s_mem σ10 eσ10 ?_
    obtain rfl := rt1 h
    exact hret _ _ dX10_readNumber_79
