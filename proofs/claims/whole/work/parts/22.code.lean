def gX10_layLoops_44 (σ : Mm) (l1 : Int32) (l2 : Int32) (l3 : Int32) (rec : Int32 × Int32 → Option (Int32)) (x4 : Int32) (x5 : Int32) : Option (Int32) :=
  if (σ 123 1) ≤ x5 then
  some x4
else
  (fX10_has σ l1 x5).bind fun r1 =>
  if r1 = 0 then
  bd (x5 + 1) fun v2 =>
  rec (x4, v2)
else
  (fX10_has σ l3 x5).bind fun r3 =>
  if r3 = 0 then
  (fX10_goesTo σ x5 l2).bind fun r5 =>
  if r5 = 0 then
  bd (x5 + 1) fun v6 =>
  rec (x4, v6)
else
  bd (x4 ||| (1 <<< (x5 &&& 31))) fun v7 =>
  bd (x5 + 1) fun v8 =>
  rec (v7, v8)
else
  bd (x5 + 1) fun v4 =>
  rec (x4, v4)
def qX10_layLoops_44 (σ : Mm) (l1 : Int32) (l2 : Int32) (l3 : Int32) : Nat → Int32 × Int32 → Option (Int32) := lp (fun rec s => gX10_layLoops_44 σ l1 l2 l3 rec s.1 s.2)
def gX10_layLoops_139 (σ : Mm) (l1 : Int32) (l2 : Int32) (l5 : Int32) (l6 : Int32) (rec : Int32 × Int32 → Option (Int32)) (x4 : Int32) (x7 : Int32) : Option (Int32) :=
  if (σ 123 1) ≤ x7 then
  some x4
else
  (fX10_has σ l1 l6).bind fun r1 =>
  if r1 = 0 then
  bd (x7 + 1) fun v2 =>
  rec (x4, v2)
else
  if x7 = l2 then
  bd (x7 + 1) fun v3 =>
  rec (x4, v3)
else
  (fX10_has σ x4 x7).bind fun r4 =>
  if r4 = 0 then
  bd (x7 + 1) fun v5 =>
  rec (x4, v5)
else
  (fX10_goesTo σ l6 x7).bind fun r6 =>
  if r6 = 0 then
  bd (x7 + 1) fun v7 =>
  rec (x4, v7)
else
  bd (x4 ||| (1 <<< (l6 &&& 31))) fun v8 =>
  bd (x7 + 1) fun v9 =>
  rec (v8, v9)
def qX10_layLoops_139 (σ : Mm) (l1 : Int32) (l2 : Int32) (l5 : Int32) (l6 : Int32) : Nat → Int32 × Int32 → Option (Int32) := lp (fun rec s => gX10_layLoops_139 σ l1 l2 l5 l6 rec s.1 s.2)
def gX10_layLoops_127 (σ : Mm) (l1 : Int32) (l2 : Int32) (l5 : Int32) (rec : Int32 × Int32 → Option (Int32)) (x4 : Int32) (x6 : Int32) : Option (Int32) :=
  if (σ 123 1) ≤ x6 then
  some x4
else
  (qX10_layLoops_139 σ l1 l2 l5 x6 FU (x4, 0)).bind fun v1 =>
  bd (x6 + 1) fun v2 =>
  rec (v1, v2)
def qX10_layLoops_127 (σ : Mm) (l1 : Int32) (l2 : Int32) (l5 : Int32) : Nat → Int32 × Int32 → Option (Int32) := lp (fun rec s => gX10_layLoops_127 σ l1 l2 l5 rec s.1 s.2)
def gX10_layLoops_115 (σ : Mm) (l1 : Int32) (l2 : Int32) (rec : Int32 × Int32 → Option (Int32)) (x4 : Int32) (x5 : Int32) : Option (Int32) :=
  if (σ 123 1) ≤ x5 then
  some x4
else
  (qX10_layLoops_127 σ l1 l2 x5 FU (x4, 0)).bind fun v1 =>
  bd (x5 + 1) fun v2 =>
  rec (v1, v2)
def qX10_layLoops_115 (σ : Mm) (l1 : Int32) (l2 : Int32) : Nat → Int32 × Int32 → Option (Int32) := lp (fun rec s => gX10_layLoops_115 σ l1 l2 rec s.1 s.2)
def gX10_layLoops_13 (l1 : Int32) (rec : Mm × Int32 → Option (Mm)) (σ : Mm) (x2 : Int32) : Option (Mm) :=
  if (σ 123 1) ≤ x2 then
  some σ
else
  (fX10_has σ l1 x2).bind fun r1 =>
  if r1 = 0 then
  bd (x2 + 1) fun v14 =>
  rec (σ, v14)
else
  (fX10_reached σ x2).bind fun r2 =>
  (qX10_layLoops_44 σ l1 x2 r2 FU (0, 0)).bind fun v3 =>
  if v3 = 0 then
  bd (x2 + 1) fun v12 =>
  rec (σ, v12)
else
  bd (v3 ||| (1 <<< (x2 &&& 31))) fun v4 =>
  (qX10_layLoops_115 σ l1 x2 FU (v4, 0)).bind fun v5 =>
  gd (σ 123 17) 8 <|
  bd (upm σ 137 (upd (σ 137) (σ 123 17).toNatClampNeg x2)) fun σ7 =>
  gd (σ7 123 17) 8 <|
  bd (upm σ7 138 (upd (σ7 138) (σ7 123 17).toNatClampNeg v5)) fun σ9 =>
  bd (upm σ9 123 (upd (σ9 123) 17 ((σ9 123 17) + 1))) fun σ10 =>
  bd (x2 + 1) fun v11 =>
  rec (σ10, v11)
def qX10_layLoops_13 (l1 : Int32) : Nat → Mm × Int32 → Option (Mm) := lp (fun rec s => gX10_layLoops_13 l1 rec s.1 s.2)
def fX10_layLoops (σ : Mm) : Option Mm :=
  bd (upm σ 123 (upd (σ 123) 17 0)) fun σ1 =>
  (fX10_reached σ1 (-1)).bind fun r2 =>
  (qX10_layLoops_13 r2 FU (σ1, 0)).bind fun σ3 =>
  some σ3
set_option maxHeartbeats 4000000 in
theorem pX10_layLoops_44 {X : sT} {cs : Nat × Nat} (hX : sX X cX10_layLoops RX10 8 2 47) (hcs : cs.1 ≤ (sR X).cells ∧ cs.2 ≤ (sR X).slots) (σ : Mm) (l1 : Int32) (l2 : Int32) (l3 : Int32)  : ∀ (n : Nat) (s : Int32 × Int32) (r : Int32), qX10_layLoops_44 σ l1 l2 l3 n s = some r → sW X 8 cs σ 96 [some (.ref (sad X 123)), some (.int l1), some (.int l2), none, some (.int r), none, none, none] [] → sW X 8 cs σ 44 [some (.ref (sad X 123)), some (.int l1), some (.int l2), some (.int l3), some (.int s.1), some (.int s.2), none, none] [] := by
  refine lp_ind (P := fun (s : Int32 × Int32) (r : Int32) => sW X 8 cs σ 96 [some (.ref (sad X 123)), some (.int l1), some (.int l2), none, some (.int r), none, none, none] [] → sW X 8 cs σ 44 [some (.ref (sad X 123)), some (.int l1), some (.int l2), some (.int l3), some (.int s.1), some (.int s.2), none, none] []) ?_
  intro rec hrec s r h0 hk
  obtain ⟨x4, x5⟩ := s
  have h : gX10_layLoops_44 σ l1 l2 l3 rec x4 x5 = some r := h0
  unfold gX10_layLoops_44 at h
  show sW X 8 cs σ 44 [some (.ref (sad X 123)), some (.int l1), some (.int l2), some (.int l3), some (.int x4), some (.int x5), none, none] []
  refine s_iload hX dX10_layLoops_44 rfl ?_
  refine s_aload_n hX dX10_layLoops_46 rfl ?_
  refine s_getI hX fo_RX10_17_9 SH_123 rfl dX10_layLoops_47 ?_
  refine s_ic_ge (tgt := 96) hX dX10_layLoops_50 (by decide) (fun c12 => ?_) (fun c12 => ?_)
  · replace h := (if_pos c12).symm.trans h
    obtain rfl := rt1 h
    refine s_mask [true, true, true, false, true, false, false, false] ?_
    exact hk
  · replace h := (if_neg c12).symm.trans h
    refine s_iload_n hX dX10_layLoops_53 rfl ?_
    refine s_iload hX dX10_layLoops_54 rfl ?_
    obtain ⟨r1, hc, h⟩ := bn_some h
    refine s_callSI _ hX (cX10_has_ok (sl X)  hc) ms_RX10_255 (fun _ => rfl) (by decide) (Nat.le_of_ble_eq_true rfl) hcs dX10_layLoops_56 rfl ?_
    refine s_if_eq (tgt := 90) hX dX10_layLoops_59 (by decide) (fun c11 => ?_) (fun c11 => ?_)
    · replace h := (if_pos c11).symm.trans h
      obtain ⟨v2, ev2, h⟩ := bd_some h
      refine s_iinc v2 hX dX10_layLoops_90 rfl (by rw [ev2]; rfl) (by decide) ?_
      refine s_goto (tgt := 44) hX dX10_layLoops_93 (by decide) ?_
      refine s_mask [true, true, true, true, true, true, false, false] ?_
      exact hrec _ _ h hk
    · replace h := (if_neg c11).symm.trans h
      refine s_iload_n hX dX10_layLoops_62 rfl ?_
      refine s_iload hX dX10_layLoops_63 rfl ?_
      obtain ⟨r3, hc, h⟩ := bn_some h
      refine s_callSI _ hX (cX10_has_ok (sl X)  hc) ms_RX10_255 (fun _ => rfl) (by decide) (Nat.le_of_ble_eq_true rfl) hcs dX10_layLoops_65 rfl ?_
      refine s_if_ne (tgt := 90) hX dX10_layLoops_68 (by decide) (fun c10 => ?_) (fun c10 => ?_)
      · replace h := (if_neg c10).symm.trans h
        obtain ⟨v4, ev4, h⟩ := bd_some h
        refine s_iinc v4 hX dX10_layLoops_90 rfl (by rw [ev4]; rfl) (by decide) ?_
        refine s_goto (tgt := 44) hX dX10_layLoops_93 (by decide) ?_
        refine s_mask [true, true, true, true, true, true, false, false] ?_
        exact hrec _ _ h hk
      · replace h := (if_pos c10).symm.trans h
        refine s_aload_n hX dX10_layLoops_71 rfl ?_
        refine s_iload hX dX10_layLoops_72 rfl ?_
        refine s_iload_n hX dX10_layLoops_74 rfl ?_
        obtain ⟨r5, hc, h⟩ := bn_some h
        refine s_callVI _ hX (cX10_goesTo_ok (sl X)  hc) SH_123 mv_RX10_235_9 (fun _ => rfl) (by decide) (Nat.le_of_ble_eq_true rfl) hcs dX10_layLoops_75 rfl ?_
        refine s_if_eq (tgt := 90) hX dX10_layLoops_78 (by decide) (fun c9 => ?_) (fun c9 => ?_)
        · replace h := (if_pos c9).symm.trans h
          obtain ⟨v6, ev6, h⟩ := bd_some h
          refine s_iinc v6 hX dX10_layLoops_90 rfl (by rw [ev6]; rfl) (by decide) ?_
          refine s_goto (tgt := 44) hX dX10_layLoops_93 (by decide) ?_
          refine s_mask [true, true, true, true, true, true, false, false] ?_
          exact hrec _ _ h hk
        · replace h := (if_neg c9).symm.trans h
          refine s_iload hX dX10_layLoops_81 rfl ?_
          refine s_iconst 1 hX dX10_layLoops_83 (by decide) ?_
          refine s_iload hX dX10_layLoops_84 rfl ?_
          refine s_ishl hX dX10_layLoops_86 ?_
          refine s_ior hX dX10_layLoops_87 ?_
          obtain ⟨v7, ev7, h⟩ := bd_some h
          refine s_topi v7 ev7 ?_
          refine s_istore hX dX10_layLoops_88 (by decide) ?_
          obtain ⟨v8, ev8, h⟩ := bd_some h
          refine s_iinc v8 hX dX10_layLoops_90 rfl (by rw [ev8]; rfl) (by decide) ?_
          refine s_goto (tgt := 44) hX dX10_layLoops_93 (by decide) ?_
          refine s_mask [true, true, true, true, true, true, false, false] ?_
          exact hrec _ _ h hk
set_option maxHeartbeats 4000000 in
theorem pX10_layLoops_139 {X : sT} {cs : Nat × Nat} (hX : sX X cX10_layLoops RX10 8 2 47) (hcs : cs.1 ≤ (sR X).cells ∧ cs.2 ≤ (sR X).slots) (σ : Mm) (l1 : Int32) (l2 : Int32) (l5 : Int32) (l6 : Int32)  : ∀ (n : Nat) (s : Int32 × Int32) (r : Int32), qX10_layLoops_139 σ l1 l2 l5 l6 n s = some r → sW X 8 cs σ 199 [some (.ref (sad X 123)), some (.int l1), some (.int l2), none, some (.int r), some (.int l5), some (.int l6), none] [] → sW X 8 cs σ 139 [some (.ref (sad X 123)), some (.int l1), some (.int l2), none, some (.int s.1), some (.int l5), some (.int l6), some (.int s.2)] [] := by
  refine lp_ind (P := fun (s : Int32 × Int32) (r : Int32) => sW X 8 cs σ 199 [some (.ref (sad X 123)), some (.int l1), some (.int l2), none, some (.int r), some (.int l5), some (.int l6), none] [] → sW X 8 cs σ 139 [some (.ref (sad X 123)), some (.int l1), some (.int l2), none, some (.int s.1), some (.int l5), some (.int l6), some (.int s.2)] []) ?_
  intro rec hrec s r h0 hk
  obtain ⟨x4, x7⟩ := s
  have h : gX10_layLoops_139 σ l1 l2 l5 l6 rec x4 x7 = some r := h0
  unfold gX10_layLoops_139 at h
  show sW X 8 cs σ 139 [some (.ref (sad X 123)), some (.int l1), some (.int l2), none, some (.int x4), some (.int l5), some (.int l6), some (.int x7)] []
  refine s_iload hX dX10_layLoops_139 rfl ?_
  refine s_aload_n hX dX10_layLoops_141 rfl ?_
  refine s_getI hX fo_RX10_17_9 SH_123 rfl dX10_layLoops_142 ?_
  refine s_ic_ge (tgt := 199) hX dX10_layLoops_145 (by decide) (fun c14 => ?_) (fun c14 => ?_)
  · replace h := (if_pos c14).symm.trans h
    obtain rfl := rt1 h
    refine s_mask [true, true, true, false, true, true, true, false] ?_
    exact hk
  · replace h := (if_neg c14).symm.trans h
    refine s_iload_n hX dX10_layLoops_148 rfl ?_
    refine s_iload hX dX10_layLoops_149 rfl ?_
    obtain ⟨r1, hc, h⟩ := bn_some h
    refine s_callSI _ hX (cX10_has_ok (sl X)  hc) ms_RX10_255 (fun _ => rfl) (by decide) (Nat.le_of_ble_eq_true rfl) hcs dX10_layLoops_151 rfl ?_
    refine s_if_eq (tgt := 193) hX dX10_layLoops_154 (by decide) (fun c13 => ?_) (fun c13 => ?_)
    · replace h := (if_pos c13).symm.trans h
      obtain ⟨v2, ev2, h⟩ := bd_some h
      refine s_iinc v2 hX dX10_layLoops_193 rfl (by rw [ev2]; rfl) (by decide) ?_
      refine s_goto (tgt := 139) hX dX10_layLoops_196 (by decide) ?_
      refine s_mask [true, true, true, false, true, true, true, true] ?_
      exact hrec _ _ h hk
    · replace h := (if_neg c13).symm.trans h
      refine s_iload hX dX10_layLoops_157 rfl ?_
      refine s_iload_n hX dX10_layLoops_159 rfl ?_
      refine s_ic_eq (tgt := 193) hX dX10_layLoops_160 (by decide) (fun c12 => ?_) (fun c12 => ?_)
      · replace h := (if_pos c12).symm.trans h
        obtain ⟨v3, ev3, h⟩ := bd_some h
        refine s_iinc v3 hX dX10_layLoops_193 rfl (by rw [ev3]; rfl) (by decide) ?_
        refine s_goto (tgt := 139) hX dX10_layLoops_196 (by decide) ?_
        refine s_mask [true, true, true, false, true, true, true, true] ?_
        exact hrec _ _ h hk
      · replace h := (if_neg c12).symm.trans h
        refine s_iload hX dX10_layLoops_163 rfl ?_
        refine s_iload hX dX10_layLoops_165 rfl ?_
        obtain ⟨r4, hc, h⟩ := bn_some h
        refine s_callSI _ hX (cX10_has_ok (sl X)  hc) ms_RX10_255 (fun _ => rfl) (by decide) (Nat.le_of_ble_eq_true rfl) hcs dX10_layLoops_167 rfl ?_
        refine s_if_eq (tgt := 193) hX dX10_layLoops_170 (by decide) (fun c11 => ?_) (fun c11 => ?_)
        · replace h := (if_pos c11).symm.trans h
          obtain ⟨v5, ev5, h⟩ := bd_some h
          refine s_iinc v5 hX dX10_layLoops_193 rfl (by rw [ev5]; rfl) (by decide) ?_
          refine s_goto (tgt := 139) hX dX10_layLoops_196 (by decide) ?_
          refine s_mask [true, true, true, false, true, true, true, true] ?_
          exact hrec _ _ h hk
        · replace h := (if_neg c11).symm.trans h
          refine s_aload_n hX dX10_layLoops_173 rfl ?_
          refine s_iload hX dX10_layLoops_174 rfl ?_
          refine s_iload hX dX10_layLoops_176 rfl ?_
          obtain ⟨r6, hc, h⟩ := bn_some h
          refine s_callVI _ hX (cX10_goesTo_ok (sl X)  hc) SH_123 mv_RX10_235_9 (fun _ => rfl) (by decide) (Nat.le_of_ble_eq_true rfl) hcs dX10_layLoops_178 rfl ?_
          refine s_if_eq (tgt := 193) hX dX10_layLoops_181 (by decide) (fun c10 => ?_) (fun c10 => ?_)
          · replace h := (if_pos c10).symm.trans h
            obtain ⟨v7, ev7, h⟩ := bd_some h
            refine s_iinc v7 hX dX10_layLoops_193 rfl (by rw [ev7]; rfl) (by decide) ?_
            refine s_goto (tgt := 139) hX dX10_layLoops_196 (by decide) ?_
            refine s_mask [true, true, true, false, true, true, true, true] ?_
            exact hrec _ _ h hk
          · replace h := (if_neg c10).symm.trans h
            refine s_iload hX dX10_layLoops_184 rfl ?_
            refine s_iconst 1 hX dX10_layLoops_186 (by decide) ?_
            refine s_iload hX dX10_layLoops_187 rfl ?_
            refine s_ishl hX dX10_layLoops_189 ?_
            refine s_ior hX dX10_layLoops_190 ?_
            obtain ⟨v8, ev8, h⟩ := bd_some h
            refine s_topi v8 ev8 ?_
            refine s_istore hX dX10_layLoops_191 (by decide) ?_
            obtain ⟨v9, ev9, h⟩ := bd_some h
            refine s_iinc v9 hX dX10_layLoops_193 rfl (by rw [ev9]; rfl) (by decide) ?_
            refine s_goto (tgt := 139) hX dX10_layLoops_196 (by decide) ?_
            refine s_mask [true, true, true, false, true, true, true, true] ?_
            exact hrec _ _ h hk
set_option maxHeartbeats 4000000 in
theorem pX10_layLoops_127 {X : sT} {cs : Nat × Nat} (hX : sX X cX10_layLoops RX10 8 2 47) (hcs : cs.1 ≤ (sR X).cells ∧ cs.2 ≤ (sR X).slots) (σ : Mm) (l1 : Int32) (l2 : Int32) (l5 : Int32)  : ∀ (n : Nat) (s : Int32 × Int32) (r : Int32), qX10_layLoops_127 σ l1 l2 l5 n s = some r → sW X 8 cs σ 205 [some (.ref (sad X 123)), some (.int l1), some (.int l2), none, some (.int r), some (.int l5), none, none] [] → sW X 8 cs σ 127 [some (.ref (sad X 123)), some (.int l1), some (.int l2), none, some (.int s.1), some (.int l5), some (.int s.2), none] [] := by
  refine lp_ind (P := fun (s : Int32 × Int32) (r : Int32) => sW X 8 cs σ 205 [some (.ref (sad X 123)), some (.int l1), some (.int l2), none, some (.int r), some (.int l5), none, none] [] → sW X 8 cs σ 127 [some (.ref (sad X 123)), some (.int l1), some (.int l2), none, some (.int s.1), some (.int l5), some (.int s.2), none] []) ?_
  intro rec hrec s r h0 hk
  obtain ⟨x4, x6⟩ := s
  have h : gX10_layLoops_127 σ l1 l2 l5 rec x4 x6 = some r := h0
  unfold gX10_layLoops_127 at h
  show sW X 8 cs σ 127 [some (.ref (sad X 123)), some (.int l1), some (.int l2), none, some (.int x4), some (.int l5), some (.int x6), none] []
  refine s_iload hX dX10_layLoops_127 rfl ?_
  refine s_aload_n hX dX10_layLoops_129 rfl ?_
  refine s_getI hX fo_RX10_17_9 SH_123 rfl dX10_layLoops_130 ?_
  refine s_ic_ge (tgt := 205) hX dX10_layLoops_133 (by decide) (fun c3 => ?_) (fun c3 => ?_)
  · replace h := (if_pos c3).symm.trans h
    obtain rfl := rt1 h
    refine s_mask [true, true, true, false, true, true, false, false] ?_
    exact hk
  · replace h := (if_neg c3).symm.trans h
    refine s_iconst 0 hX dX10_layLoops_136 (by decide) ?_
    refine s_istore hX dX10_layLoops_137 (by decide) ?_
    obtain ⟨v1, hc, h⟩ := bn_some h
    refine s_mask [true, true, true, false, true, true, true, true] ?_
    refine pX10_layLoops_139 hX hcs _ _ _ _ _ _ _ _ hc ?_
    obtain ⟨v2, ev2, h⟩ := bd_some h
    refine s_iinc v2 hX dX10_layLoops_199 rfl (by rw [ev2]; rfl) (by decide) ?_
    refine s_goto (tgt := 127) hX dX10_layLoops_202 (by decide) ?_
    refine s_mask [true, true, true, false, true, true, true, false] ?_
    exact hrec _ _ h hk
set_option maxHeartbeats 4000000 in
theorem pX10_layLoops_115 {X : sT} {cs : Nat × Nat} (hX : sX X cX10_layLoops RX10 8 2 47) (hcs : cs.1 ≤ (sR X).cells ∧ cs.2 ≤ (sR X).slots) (σ : Mm) (l1 : Int32) (l2 : Int32)  : ∀ (n : Nat) (s : Int32 × Int32) (r : Int32), qX10_layLoops_115 σ l1 l2 n s = some r → sW X 8 cs σ 211 [some (.ref (sad X 123)), some (.int l1), some (.int l2), none, some (.int r), none, none, none] [] → sW X 8 cs σ 115 [some (.ref (sad X 123)), some (.int l1), some (.int l2), none, some (.int s.1), some (.int s.2), none, none] [] := by
  refine lp_ind (P := fun (s : Int32 × Int32) (r : Int32) => sW X 8 cs σ 211 [some (.ref (sad X 123)), some (.int l1), some (.int l2), none, some (.int r), none, none, none] [] → sW X 8 cs σ 115 [some (.ref (sad X 123)), some (.int l1), some (.int l2), none, some (.int s.1), some (.int s.2), none, none] []) ?_
  intro rec hrec s r h0 hk
  obtain ⟨x4, x5⟩ := s
  have h : gX10_layLoops_115 σ l1 l2 rec x4 x5 = some r := h0
  unfold gX10_layLoops_115 at h
  show sW X 8 cs σ 115 [some (.ref (sad X 123)), some (.int l1), some (.int l2), none, some (.int x4), some (.int x5), none, none] []
  refine s_iload hX dX10_layLoops_115 rfl ?_
  refine s_aload_n hX dX10_layLoops_117 rfl ?_
  refine s_getI hX fo_RX10_17_9 SH_123 rfl dX10_layLoops_118 ?_
  refine s_ic_ge (tgt := 211) hX dX10_layLoops_121 (by decide) (fun c3 => ?_) (fun c3 => ?_)
  · replace h := (if_pos c3).symm.trans h
    obtain rfl := rt1 h
    refine s_mask [true, true, true, false, true, false, false, false] ?_
    exact hk
  · replace h := (if_neg c3).symm.trans h
    refine s_iconst 0 hX dX10_layLoops_124 (by decide) ?_
    refine s_istore hX dX10_layLoops_125 (by decide) ?_
    obtain ⟨v1, hc, h⟩ := bn_some h
    refine s_mask [true, true, true, false, true, true, true, false] ?_
    refine pX10_layLoops_127 hX hcs _ _ _ _ _ _ _ hc ?_
    obtain ⟨v2, ev2, h⟩ := bd_some h
    refine s_iinc v2 hX dX10_layLoops_205 rfl (by rw [ev2]; rfl) (by decide) ?_
    refine s_goto (tgt := 115) hX dX10_layLoops_208 (by decide) ?_
    refine s_mask [true, true, true, false, true, true, false, false] ?_
    exact hrec _ _ h hk
set_option maxHeartbeats 4000000 in
theorem pX10_layLoops_13 {X : sT} {cs : Nat × Nat} (hX : sX X cX10_layLoops RX10 8 2 47) (hcs : cs.1 ≤ (sR X).cells ∧ cs.2 ≤ (sR X).slots) (l1 : Int32)  : ∀ (n : Nat) (s : Mm × Int32) (r : Mm), qX10_layLoops_13 l1 n s = some r → sW X 8 cs r 248 [none, none, none, none, none, none, none, none] [] → sW X 8 cs s.1 13 [some (.ref (sad X 123)), some (.int l1), some (.int s.2), none, none, none, none, none] [] := by
  refine lp_ind (P := fun (s : Mm × Int32) (r : Mm) => sW X 8 cs r 248 [none, none, none, none, none, none, none, none] [] → sW X 8 cs s.1 13 [some (.ref (sad X 123)), some (.int l1), some (.int s.2), none, none, none, none, none] []) ?_
  intro rec hrec s r h0 hk
  obtain ⟨σ, x2⟩ := s
  have h : gX10_layLoops_13 l1 rec σ x2 = some r := h0
  unfold gX10_layLoops_13 at h
  show sW X 8 cs σ 13 [some (.ref (sad X 123)), some (.int l1), some (.int x2), none, none, none, none, none] []
  refine s_iload_n hX dX10_layLoops_13 rfl ?_
  refine s_aload_n hX dX10_layLoops_14 rfl ?_
  refine s_getI hX fo_RX10_17_9 SH_123 rfl dX10_layLoops_15 ?_
  refine s_ic_ge (tgt := 248) hX dX10_layLoops_18 (by decide) (fun c16 => ?_) (fun c16 => ?_)
  · replace h := (if_pos c16).symm.trans h
    obtain rfl := rt1 h
    refine s_mask [false, false, false, false, false, false, false, false] ?_
    exact hk
  · replace h := (if_neg c16).symm.trans h
    refine s_iload_n hX dX10_layLoops_21 rfl ?_
    refine s_iload_n hX dX10_layLoops_22 rfl ?_
    obtain ⟨r1, hc, h⟩ := bn_some h
    refine s_callSI _ hX (cX10_has_ok (sl X)  hc) ms_RX10_255 (fun _ => rfl) (by decide) (Nat.le_of_ble_eq_true rfl) hcs dX10_layLoops_23 rfl ?_
    refine s_if_ne (tgt := 32) hX dX10_layLoops_26 (by decide) (fun c15 => ?_) (fun c15 => ?_)
    · replace h := (if_neg c15).symm.trans h
      refine s_aload_n hX dX10_layLoops_32 rfl ?_
      refine s_iload_n hX dX10_layLoops_33 rfl ?_
      obtain ⟨r2, hc, h⟩ := bn_some h
      refine s_callVI _ hX (cX10_reached_ok (sl X)  hc) SH_123 mv_RX10_273_9 (fun _ => rfl) (by decide) (Nat.le_of_ble_eq_true rfl) hcs dX10_layLoops_34 rfl ?_
      refine s_istore_n hX dX10_layLoops_37 (by decide) ?_
      refine s_iconst 0 hX dX10_layLoops_38 (by decide) ?_
      refine s_istore hX dX10_layLoops_39 (by decide) ?_
      refine s_iconst 0 hX dX10_layLoops_41 (by decide) ?_
      refine s_istore hX dX10_layLoops_42 (by decide) ?_
      obtain ⟨v3, hc, h⟩ := bn_some h
      refine s_mask [true, true, true, true, true, true, false, false] ?_
      refine pX10_layLoops_44 hX hcs _ _ _ _ _ _ _ hc ?_
      refine s_iload hX dX10_layLoops_96 rfl ?_
      refine s_if_ne (tgt := 104) hX dX10_layLoops_98 (by decide) (fun c13 => ?_) (fun c13 => ?_)
      · replace h := (if_neg c13).symm.trans h
        refine s_iload hX dX10_layLoops_104 rfl ?_
        refine s_iconst 1 hX dX10_layLoops_106 (by decide) ?_
        refine s_iload_n hX dX10_layLoops_107 rfl ?_
        refine s_ishl hX dX10_layLoops_108 ?_
        refine s_ior hX dX10_layLoops_109 ?_
        obtain ⟨v4, ev4, h⟩ := bd_some h
        refine s_topi v4 ev4 ?_
        refine s_istore hX dX10_layLoops_110 (by decide) ?_
        refine s_iconst 0 hX dX10_layLoops_112 (by decide) ?_
        refine s_istore hX dX10_layLoops_113 (by decide) ?_
        obtain ⟨v5, hc, h⟩ := bn_some h
        refine s_mask [true, true, true, false, true, true, false, false] ?_
        refine pX10_layLoops_115 hX hcs _ _ _ _ _ _ hc ?_
        refine s_aload_n hX dX10_layLoops_211 rfl ?_
        refine s_getR (r := 137) hX fo_RX10_70_9 SH_123 rfl dX10_layLoops_212 ?_
        refine s_aload_n hX dX10_layLoops_215 rfl ?_
        refine s_getI hX fo_RX10_67_9 SH_123 rfl dX10_layLoops_216 ?_
        refine s_iload_n hX dX10_layLoops_219 rfl ?_
        obtain ⟨c6, h⟩ := gd_some h
        obtain ⟨σ7, eσ7, h⟩ := bd_some h
        refine s_iast hX SH_137 c6 dX10_layLoops_220 ?_
        refine s_mem σ7 eσ7 ?_
        refine s_aload_n hX dX10_layLoops_221 rfl ?_
        refine s_getR (r := 138) hX fo_RX10_73_9 SH_123 rfl dX10_layLoops_222 ?_
        refine s_aload_n hX dX10_layLoops_225 rfl ?_
        refine s_getI hX fo_RX10_67_9 SH_123 rfl dX10_layLoops_226 ?_
        refine s_iload hX dX10_layLoops_229 rfl ?_
        obtain ⟨c8, h⟩ := gd_some h
        obtain ⟨σ9, eσ9, h⟩ := bd_some h
        refine s_iast hX SH_138 c8 dX10_layLoops_231 ?_
        refine s_mem σ9 eσ9 ?_
        refine s_aload_n hX dX10_layLoops_232 rfl ?_
        refine s_dup hX dX10_layLoops_233 rfl ?_
        refine s_getI hX fo_RX10_67_9 SH_123 rfl dX10_layLoops_234 ?_
        refine s_iconst 1 hX dX10_layLoops_237 (by decide) ?_
        refine s_iadd hX dX10_layLoops_238 ?_
        obtain ⟨σ10, eσ10, h⟩ := bd_some h
        refine s_putI hX fo_RX10_67_9 SH_123 rfl dX10_layLoops_239 ?_
        refine s_mem σ10 eσ10 ?_
        obtain ⟨v11, ev11, h⟩ := bd_some h
        refine s_iinc v11 hX dX10_layLoops_242 rfl (by rw [ev11]; rfl) (by decide) ?_
        refine s_goto (tgt := 13) hX dX10_layLoops_245 (by decide) ?_
        refine s_mask [true, true, true, false, false, false, false, false] ?_
        exact hrec _ _ h hk
      · replace h := (if_pos c13).symm.trans h
        refine s_goto (tgt := 242) hX dX10_layLoops_101 (by decide) ?_
        obtain ⟨v12, ev12, h⟩ := bd_some h
        refine s_iinc v12 hX dX10_layLoops_242 rfl (by rw [ev12]; rfl) (by decide) ?_
        refine s_goto (tgt := 13) hX dX10_layLoops_245 (by decide) ?_
        refine s_mask [true, true, true, false, false, false, false, false] ?_
        exact hrec _ _ h hk
    · replace h := (if_pos c15).symm.trans h
      refine s_goto (tgt := 242) hX dX10_layLoops_29 (by decide) ?_
      obtain ⟨v14, ev14, h⟩ := bd_some h
      refine s_iinc v14 hX dX10_layLoops_242 rfl (by rw [ev14]; rfl) (by decide) ?_
      refine s_goto (tgt := 13) hX dX10_layLoops_245 (by decide) ?_
      refine s_mask [true, true, true, false, false, false, false, false] ?_
      exact hrec _ _ h hk
set_option maxHeartbeats 4000000 in
theorem cX10_layLoops_ok (l : Launch) {σ : Mm} {σ' : Mm}  (h : fX10_layLoops σ = some σ') : cV l yX10_layLoops cX10_layLoops 8 2 47 (fun ad => [.ref (ad 123)]) σ σ' := by
  refine c_enterV (fun ad => [some (.ref (ad 123)), none, none, none, none, none, none, none]) (by decide) (fun ad => ⟨by simp [Value.category], Nat.le_of_ble_eq_true rfl⟩) (fun ad => ⟨7, rfl⟩) ?_
  intro X _ hX hret
  have hcs : ((0 : Nat), (0 : Nat)).1 ≤ (sR X).cells ∧ ((0 : Nat), (0 : Nat)).2 ≤ (sR X).slots := ⟨Nat.zero_le _, Nat.zero_le _⟩
  generalize hcs0 : ((0 : Nat), (0 : Nat)) = cs at hcs hret ⊢
  unfold fX10_layLoops at h
  show sW X 8 cs σ 0 [some (.ref (sad X 123)), none, none, none, none, none, none, none] []
  refine s_aload_n hX dX10_layLoops_0 rfl ?_
  refine s_iconst 0 hX dX10_layLoops_1 (by decide) ?_
  obtain ⟨σ1, eσ1, h⟩ := bd_some h
  refine s_putI hX fo_RX10_67_9 SH_123 rfl dX10_layLoops_2 ?_
  refine s_mem σ1 eσ1 ?_
  refine s_aload_n hX dX10_layLoops_5 rfl ?_
  refine s_iconst (-1) hX dX10_layLoops_6 (by decide) ?_
  obtain ⟨r2, hc, h⟩ := bn_some h
  refine s_callVI _ hX (cX10_reached_ok (sl X)  hc) SH_123 mv_RX10_273_9 (fun _ => rfl) (by decide) (Nat.le_of_ble_eq_true rfl) hcs dX10_layLoops_7 rfl ?_
  refine s_istore_n hX dX10_layLoops_10 (by decide) ?_
  refine s_iconst 0 hX dX10_layLoops_11 (by decide) ?_
  refine s_istore_n hX dX10_layLoops_12 (by decide) ?_
  obtain ⟨σ3, hc, h⟩ := bn_some h
  refine s_mask [true, true, true, false, false, false, false, false] ?_
  refine pX10_layLoops_13 hX hcs _ _ _ _ hc ?_
  obtain rfl := rt1 h
  exact hret _ _ dX10_layLoops_248
def fX10_isWithin (σ : Mm) (l1 : Int32) (l2 : Int32) : Option Int32 :=
  gd l1 8 <|
  gd l2 8 <|
  if ((σ 138 l1.toNatClampNeg) &&& ((σ 138 l2.toNatClampNeg) ^^^ (-1))) = 0 then
  some 1
else
  some 0
set_option maxHeartbeats 4000000 in
theorem cX10_isWithin_ok (l : Launch) {σ : Mm} {l1 : Int32} {l2 : Int32} {r : Int32}  (h : fX10_isWithin σ l1 l2 = some r) : cI l yX10_isWithin cX10_isWithin 3 .boolean 0 0 (fun ad => [.ref (ad 123), .int l1, .int l2]) σ r σ := by
  refine c_enterI (fun ad => [some (.ref (ad 123)), some (.int l1), some (.int l2)]) (by decide) (fun ad => ⟨by simp [Value.category], Nat.le_of_ble_eq_true rfl⟩) (fun ad => ⟨0, rfl⟩) ?_
  intro X _ hX hret
  have hcs : ((0 : Nat), (0 : Nat)).1 ≤ (sR X).cells ∧ ((0 : Nat), (0 : Nat)).2 ≤ (sR X).slots := ⟨Nat.zero_le _, Nat.zero_le _⟩
  generalize hcs0 : ((0 : Nat), (0 : Nat)) = cs at hcs hret ⊢
  unfold fX10_isWithin at h
  show sW X 3 cs σ 0 [some (.ref (sad X 123)), some (.int l1), some (.int l2)] []
  refine s_aload_n hX dX10_isWithin_0 rfl ?_
  refine s_getR (r := 138) hX fo_RX10_73_9 SH_123 rfl dX10_isWithin_1 ?_
  refine s_iload_n hX dX10_isWithin_4 rfl ?_
  obtain ⟨c1, h⟩ := gd_some h
  refine s_iald hX SH_138 c1 dX10_isWithin_5 ?_
  refine s_aload_n hX dX10_isWithin_6 rfl ?_
  refine s_getR (r := 138) hX fo_RX10_73_9 SH_123 rfl dX10_isWithin_7 ?_
  refine s_iload_n hX dX10_isWithin_10 rfl ?_
  obtain ⟨c2, h⟩ := gd_some h
  refine s_iald hX SH_138 c2 dX10_isWithin_11 ?_
  refine s_iconst (-1) hX dX10_isWithin_12 (by decide) ?_
  refine s_ixor hX dX10_isWithin_13 ?_
  refine s_iand hX dX10_isWithin_14 ?_
  refine s_if_ne (tgt := 22) hX dX10_isWithin_15 (by decide) (fun c3 => ?_) (fun c3 => ?_)
  · replace h := (if_neg c3).symm.trans h
    refine s_iconst 0 hX dX10_isWithin_22 (by decide) ?_
    obtain rfl := rt1 h
    exact hret _ _ nz0 dX10_isWithin_23
  · replace h := (if_pos c3).symm.trans h
    refine s_iconst 1 hX dX10_isWithin_18 (by decide) ?_
    refine s_goto (tgt := 23) hX dX10_isWithin_19 (by decide) ?_
    obtain rfl := rt1 h
    exact hret _ _ nz1 dX10_isWithin_23
def fX10_loops (σ : Mm) : Option (Int32 × Mm) :=
  (fX10_layLoops σ).bind fun σ1 =>
  some (σ1 123 17, σ1)
set_option maxHeartbeats 4000000 in
theorem cX10_loops_ok (l : Launch) {σ : Mm} {r : Int32} {σ' : Mm}  (h : fX10_loops σ = some (r, σ')) : cI l yX10_loops cX10_loops 1 .int 3 74 (fun ad => [.ref (ad 123)]) σ r σ' := by
  refine c_enterI (fun ad => [some (.ref (ad 123))]) (by decide) (fun ad => ⟨by simp [Value.category], Nat.le_of_ble_eq_true rfl⟩) (fun ad => ⟨0, rfl⟩) ?_
  intro X _ hX hret
  have hcs : ((0 : Nat), (0 : Nat)).1 ≤ (sR X).cells ∧ ((0 : Nat), (0 : Nat)).2 ≤ (sR X).slots := ⟨Nat.zero_le _, Nat.zero_le _⟩
  generalize hcs0 : ((0 : Nat), (0 : Nat)) = cs at hcs hret ⊢
  unfold fX10_loops at h
  show sW X 1 cs σ 0 [some (.ref (sad X 123))] []
  refine s_aload_n hX dX10_loops_0 rfl ?_
  obtain ⟨σ1, hc, h⟩ := bn_some h
  refine s_callVV _ hX (cX10_layLoops_ok (sl X)  hc) SH_123 mv_RX10_276_9 (fun _ => rfl) (by decide) (Nat.le_of_ble_eq_true rfl) hcs dX10_loops_1 rfl ?_
  refine s_aload_n hX dX10_loops_4 rfl ?_
  refine s_getI hX fo_RX10_67_9 SH_123 rfl dX10_loops_5 ?_
  obtain ⟨rfl, rfl⟩ := rt2 h
  exact hret _ _ (nzi _) dX10_loops_8
def gX10_loop_49 (σ : Mm) (l1 : Int32) (l2 : Int32) (rec : Int32 × Int32 → Option (Int32)) (x3 : Int32) (x4 : Int32) : Option (Int32) :=
  if (σ 123 17) ≤ x4 then
  some x3
else
  if x4 = l1 then
  bd (x3 + 0) fun v1 =>
  bd (x4 + 1) fun v2 =>
  rec (v1, v2)
else
  (fX10_isWithin σ l1 x4).bind fun r3 =>
  if r3 = 0 then
  bd (x3 + 0) fun v4 =>
  bd (x4 + 1) fun v5 =>
  rec (v4, v5)
else
  bd (x3 + 1) fun v6 =>
  bd (x4 + 1) fun v7 =>
  rec (v6, v7)
def qX10_loop_49 (σ : Mm) (l1 : Int32) (l2 : Int32) : Nat → Int32 × Int32 → Option (Int32) := lp (fun rec s => gX10_loop_49 σ l1 l2 rec s.1 s.2)
def fX10_loop (σ : Mm) (l1 : Int32) (l2 : Int32) : Option (Int32 × Mm) :=
  bd (upm σ 123 (upd (σ 123) 0 0)) fun σ1 =>
  (fX10_layLoops σ1).bind fun σ2 =>
  (fX10_in σ2 l1 0 ((σ2 123 17) - 1)).bind fun r3 =>
  if r3 = 0 then
  bn2 (fX10_fails σ2 1) fun r13 σ14 =>
  some (r13, σ14)
else
  (fX10_in σ2 l2 0 2).bind fun r4 =>
  if r4 = 0 then
  bn2 (fX10_fails σ2 2) fun r10 σ11 =>
  some (r10, σ11)
else
  (qX10_loop_49 σ2 l1 l2 FU (0, 0)).bind fun v5 =>
  if l2 = 0 then
  gd l1 8 <|
  some (σ2 137 l1.toNatClampNeg, σ2)
else
  if l2 = 1 then
  gd l1 8 <|
  some (σ2 138 l1.toNatClampNeg, σ2)
else
  some (v5, σ2)
set_option maxHeartbeats 4000000 in
theorem pX10_loop_49 {X : sT} {cs : Nat × Nat} (hX : sX X cX10_loop RX10 5 3 74) (hcs : cs.1 ≤ (sR X).cells ∧ cs.2 ≤ (sR X).slots) (σ : Mm) (l1 : Int32) (l2 : Int32)  : ∀ (n : Nat) (s : Int32 × Int32) (r : Int32), qX10_loop_49 σ l1 l2 n s = some r → sW X 5 cs σ 88 [some (.ref (sad X 123)), some (.int l1), some (.int l2), some (.int r), none] [] → sW X 5 cs σ 49 [some (.ref (sad X 123)), some (.int l1), some (.int l2), some (.int s.1), some (.int s.2)] [] := by
  refine lp_ind (P := fun (s : Int32 × Int32) (r : Int32) => sW X 5 cs σ 88 [some (.ref (sad X 123)), some (.int l1), some (.int l2), some (.int r), none] [] → sW X 5 cs σ 49 [some (.ref (sad X 123)), some (.int l1), some (.int l2), some (.int s.1), some (.int s.2)] []) ?_
  intro rec hrec s r h0 hk
  obtain ⟨x3, x4⟩ := s
  have h : gX10_loop_49 σ l1 l2 rec x3 x4 = some r := h0
  unfold gX10_loop_49 at h
  show sW X 5 cs σ 49 [some (.ref (sad X 123)), some (.int l1), some (.int l2), some (.int x3), some (.int x4)] []
  refine s_iload hX dX10_loop_49 rfl ?_
  refine s_aload_n hX dX10_loop_51 rfl ?_
  refine s_getI hX fo_RX10_67_9 SH_123 rfl dX10_loop_52 ?_
  refine s_ic_ge (tgt := 88) hX dX10_loop_55 (by decide) (fun c10 => ?_) (fun c10 => ?_)
  · replace h := (if_pos c10).symm.trans h
    obtain rfl := rt1 h
    refine s_mask [true, true, true, true, false] ?_
    exact hk
  · replace h := (if_neg c10).symm.trans h
    refine s_iload_n hX dX10_loop_58 rfl ?_
    refine s_iload hX dX10_loop_59 rfl ?_
    refine s_iload_n hX dX10_loop_61 rfl ?_
    refine s_ic_eq (tgt := 79) hX dX10_loop_62 (by decide) (fun c9 => ?_) (fun c9 => ?_)
    · replace h := (if_pos c9).symm.trans h
      refine s_iconst 0 hX dX10_loop_79 (by decide) ?_
      refine s_iadd hX dX10_loop_80 ?_
      obtain ⟨v1, ev1, h⟩ := bd_some h
      refine s_topi v1 ev1 ?_
      refine s_istore_n hX dX10_loop_81 (by decide) ?_
      obtain ⟨v2, ev2, h⟩ := bd_some h
      refine s_iinc v2 hX dX10_loop_82 rfl (by rw [ev2]; rfl) (by decide) ?_
      refine s_goto (tgt := 49) hX dX10_loop_85 (by decide) ?_
      refine s_mask [true, true, true, true, true] ?_
      exact hrec _ _ h hk
    · replace h := (if_neg c9).symm.trans h
      refine s_aload_n hX dX10_loop_65 rfl ?_
      refine s_iload_n hX dX10_loop_66 rfl ?_
      refine s_iload hX dX10_loop_67 rfl ?_
      obtain ⟨r3, hc, h⟩ := bn_some h
      refine s_callVI _ hX (cX10_isWithin_ok (sl X)  hc) SH_123 mv_RX10_279_9 (fun _ => rfl) (by decide) (Nat.le_of_ble_eq_true rfl) hcs dX10_loop_69 rfl ?_
      refine s_if_eq (tgt := 79) hX dX10_loop_72 (by decide) (fun c8 => ?_) (fun c8 => ?_)
      · replace h := (if_pos c8).symm.trans h
        refine s_iconst 0 hX dX10_loop_79 (by decide) ?_
        refine s_iadd hX dX10_loop_80 ?_
        obtain ⟨v4, ev4, h⟩ := bd_some h
        refine s_topi v4 ev4 ?_
        refine s_istore_n hX dX10_loop_81 (by decide) ?_
        obtain ⟨v5, ev5, h⟩ := bd_some h
        refine s_iinc v5 hX dX10_loop_82 rfl (by rw [ev5]; rfl) (by decide) ?_
        refine s_goto (tgt := 49) hX dX10_loop_85 (by decide) ?_
        refine s_mask [true, true, true, true, true] ?_
        exact hrec _ _ h hk
      · replace h := (if_neg c8).symm.trans h
        refine s_iconst 1 hX dX10_loop_75 (by decide) ?_
        refine s_goto (tgt := 80) hX dX10_loop_76 (by decide) ?_
        refine s_iadd hX dX10_loop_80 ?_
        obtain ⟨v6, ev6, h⟩ := bd_some h
        refine s_topi v6 ev6 ?_
        refine s_istore_n hX dX10_loop_81 (by decide) ?_
        obtain ⟨v7, ev7, h⟩ := bd_some h
        refine s_iinc v7 hX dX10_loop_82 rfl (by rw [ev7]; rfl) (by decide) ?_
        refine s_goto (tgt := 49) hX dX10_loop_85 (by decide) ?_
        refine s_mask [true, true, true, true, true] ?_
        exact hrec _ _ h hk
set_option maxHeartbeats 4000000 in
theorem cX10_loop_ok (l : Launch) {σ : Mm} {l1 : Int32} {l2 : Int32} {r : Int32} {σ' : Mm}  (h : fX10_loop σ l1 l2 = some (r, σ')) : cI l yX10_loop cX10_loop 5 .int 3 74 (fun ad => [.ref (ad 123), .int l1, .int l2]) σ r σ' := by
  refine c_enterI (fun ad => [some (.ref (ad 123)), some (.int l1), some (.int l2), none, none]) (by decide) (fun ad => ⟨by simp [Value.category], Nat.le_of_ble_eq_true rfl⟩) (fun ad => ⟨2, rfl⟩) ?_
  intro X _ hX hret
  have hcs : ((0 : Nat), (0 : Nat)).1 ≤ (sR X).cells ∧ ((0 : Nat), (0 : Nat)).2 ≤ (sR X).slots := ⟨Nat.zero_le _, Nat.zero_le _⟩
  generalize hcs0 : ((0 : Nat), (0 : Nat)) = cs at hcs hret ⊢
  unfold fX10_loop at h
  show sW X 5 cs σ 0 [some (.ref (sad X 123)), some (.int l1), some (.int l2), none, none] []
  refine s_aload_n hX dX10_loop_0 rfl ?_
  refine s_iconst 0 hX dX10_loop_1 (by decide) ?_
  obtain ⟨σ1, eσ1, h⟩ := bd_some h
  refine s_putI hX fo_RX10_1_9 SH_123 rfl dX10_loop_2 ?_
  refine s_mem σ1 eσ1 ?_
  refine s_aload_n hX dX10_loop_5 rfl ?_
  obtain ⟨σ2, hc, h⟩ := bn_some h
  refine s_callVV _ hX (cX10_layLoops_ok (sl X)  hc) SH_123 mv_RX10_276_9 (fun _ => rfl) (by decide) (Nat.le_of_ble_eq_true rfl) hcs dX10_loop_6 rfl ?_
  refine s_iload_n hX dX10_loop_9 rfl ?_
  refine s_iconst 0 hX dX10_loop_10 (by decide) ?_
  refine s_aload_n hX dX10_loop_11 rfl ?_
  refine s_getI hX fo_RX10_67_9 SH_123 rfl dX10_loop_12 ?_
  refine s_iconst 1 hX dX10_loop_15 (by decide) ?_
  refine s_isub hX dX10_loop_16 ?_
  obtain ⟨r3, hc, h⟩ := bn_some h
  refine s_callSI _ hX (cX10_in_ok (sl X)  hc) ms_RX10_7 (fun _ => rfl) (by decide) (Nat.le_of_ble_eq_true rfl) hcs dX10_loop_17 rfl ?_
  refine s_if_ne (tgt := 29) hX dX10_loop_20 (by decide) (fun c15 => ?_) (fun c15 => ?_)
  · replace h := (if_neg c15).symm.trans h
    refine s_iload_n hX dX10_loop_29 rfl ?_
    refine s_iconst 0 hX dX10_loop_30 (by decide) ?_
    refine s_iconst 2 hX dX10_loop_31 (by decide) ?_
    obtain ⟨r4, hc, h⟩ := bn_some h
    refine s_callSI _ hX (cX10_in_ok (sl X)  hc) ms_RX10_7 (fun _ => rfl) (by decide) (Nat.le_of_ble_eq_true rfl) hcs dX10_loop_32 rfl ?_
    refine s_if_ne (tgt := 44) hX dX10_loop_35 (by decide) (fun c12 => ?_) (fun c12 => ?_)
    · replace h := (if_neg c12).symm.trans h
      refine s_iconst 0 hX dX10_loop_44 (by decide) ?_
      refine s_istore_n hX dX10_loop_45 (by decide) ?_
      refine s_iconst 0 hX dX10_loop_46 (by decide) ?_
      refine s_istore hX dX10_loop_47 (by decide) ?_
      obtain ⟨v5, hc, h⟩ := bn_some h
      refine s_mask [true, true, true, true, true] ?_
      refine pX10_loop_49 hX hcs _ _ _ _ _ _ hc ?_
      refine s_iload_n hX dX10_loop_88 rfl ?_
      refine s_if_ne (tgt := 101) hX dX10_loop_89 (by decide) (fun c9 => ?_) (fun c9 => ?_)
      · replace h := (if_neg c9).symm.trans h
        refine s_iload_n hX dX10_loop_101 rfl ?_
        refine s_iconst 1 hX dX10_loop_102 (by decide) ?_
        refine s_ic_ne (tgt := 115) hX dX10_loop_103 (by decide) (fun c7 => ?_) (fun c7 => ?_)
        · replace h := (if_neg c7).symm.trans h
          refine s_iload_n hX dX10_loop_115 rfl ?_
          obtain ⟨rfl, rfl⟩ := rt2 h
          exact hret _ _ (nzi _) dX10_loop_116
        · replace h := (if_pos c7).symm.trans h
          refine s_aload_n hX dX10_loop_106 rfl ?_
          refine s_getR (r := 138) hX fo_RX10_73_9 SH_123 rfl dX10_loop_107 ?_
          refine s_iload_n hX dX10_loop_110 rfl ?_
          obtain ⟨c6, h⟩ := gd_some h
          refine s_iald hX SH_138 c6 dX10_loop_111 ?_
          refine s_goto (tgt := 116) hX dX10_loop_112 (by decide) ?_
          obtain ⟨rfl, rfl⟩ := rt2 h
          exact hret _ _ (nzi _) dX10_loop_116
      · replace h := (if_pos c9).symm.trans h
        refine s_aload_n hX dX10_loop_92 rfl ?_
        refine s_getR (r := 137) hX fo_RX10_70_9 SH_123 rfl dX10_loop_93 ?_
        refine s_iload_n hX dX10_loop_96 rfl ?_
        obtain ⟨c8, h⟩ := gd_some h
        refine s_iald hX SH_137 c8 dX10_loop_97 ?_
        refine s_goto (tgt := 116) hX dX10_loop_98 (by decide) ?_
        obtain ⟨rfl, rfl⟩ := rt2 h
        exact hret _ _ (nzi _) dX10_loop_116
    · replace h := (if_pos c12).symm.trans h
      refine s_aload_n hX dX10_loop_38 rfl ?_
      refine s_iconst 2 hX dX10_loop_39 (by decide) ?_
      obtain ⟨r10, σ11, hc, h⟩ := bn2_some h
      refine s_callVI _ hX (cX10_fails_ok (sl X)  hc) SH_123 mv_RX10_217_9 (fun _ => rfl) (by decide) (Nat.le_of_ble_eq_true rfl) hcs dX10_loop_40 rfl ?_
      obtain ⟨rfl, rfl⟩ := rt2 h
      exact hret _ _ (nzi _) dX10_loop_43
  · replace h := (if_pos c15).symm.trans h
    refine s_aload_n hX dX10_loop_23 rfl ?_
    refine s_iconst 1 hX dX10_loop_24 (by decide) ?_
    obtain ⟨r13, σ14, hc, h⟩ := bn2_some h
    refine s_callVI _ hX (cX10_fails_ok (sl X)  hc) SH_123 mv_RX10_217_9 (fun _ => rfl) (by decide) (Nat.le_of_ble_eq_true rfl) hcs dX10_loop_25 rfl ?_
    obtain ⟨rfl, rfl⟩ := rt2 h
    exact hret _ _ (nzi _) dX10_loop_28
def gX10_sumOfUses_29 (σ : Mm) (l1 : Int32) (l2 : Int32) (l4 : Int32) (rec : Int32 × Int32 → Option (Int32)) (x3 : Int32) (x5 : Int32) : Option (Int32) :=
  gd l4 8 <|
  if (σ 124 l4.toNatClampNeg) ≤ x5 then
  some x3
else
  (fX10_usesOf σ ((8 * l4) + x5)).bind fun r2 =>
  (fX10_has σ r2 l1).bind fun r3 =>
  if r3 = 0 then
  bd (x3 + 0) fun v4 =>
  bd (x5 + 1) fun v5 =>
  rec (v4, v5)
else
  gd l4 8 <|
  bd (x3 + (σ 129 l4.toNatClampNeg)) fun v7 =>
  bd (x5 + 1) fun v8 =>
  rec (v7, v8)
def qX10_sumOfUses_29 (σ : Mm) (l1 : Int32) (l2 : Int32) (l4 : Int32) : Nat → Int32 × Int32 → Option (Int32) := lp (fun rec s => gX10_sumOfUses_29 σ l1 l2 l4 rec s.1 s.2)
def gX10_sumOfUses_5 (σ : Mm) (l1 : Int32) (l2 : Int32) (rec : Int32 × Int32 → Option (Int32)) (x3 : Int32) (x4 : Int32) : Option (Int32) :=
  if (σ 123 1) ≤ x4 then
  some x3
else
  (fX10_has σ l2 x4).bind fun r1 =>
  if r1 = 0 then
  bd (x4 + 1) fun v11 =>
  rec (x3, v11)
else
  (qX10_sumOfUses_29 σ l1 l2 x4 FU (x3, 0)).bind fun v2 =>
  (fX10_endUse σ x4).bind fun r3 =>
  (fX10_has σ r3 l1).bind fun r4 =>
  if r4 = 0 then
  bd (v2 + 0) fun v5 =>
  bd (x4 + 1) fun v6 =>
  rec (v5, v6)
else
  gd x4 8 <|
  bd (v2 + (σ 129 x4.toNatClampNeg)) fun v8 =>
  bd (x4 + 1) fun v9 =>
  rec (v8, v9)
def qX10_sumOfUses_5 (σ : Mm) (l1 : Int32) (l2 : Int32) : Nat → Int32 × Int32 → Option (Int32) := lp (fun rec s => gX10_sumOfUses_5 σ l1 l2 rec s.1 s.2)
def fX10_sumOfUses (σ : Mm) (l1 : Int32) (l2 : Int32) : Option Int32 :=
  (qX10_sumOfUses_5 σ l1 l2 FU (0, 0)).bind fun v1 =>
  some v1
set_option maxHeartbeats 4000000 in
theorem pX10_sumOfUses_29 {X : sT} {cs : Nat × Nat} (hX : sX X cX10_sumOfUses RX10 6 1 21) (hcs : cs.1 ≤ (sR X).cells ∧ cs.2 ≤ (sR X).slots) (σ : Mm) (l1 : Int32) (l2 : Int32) (l4 : Int32)  : ∀ (n : Nat) (s : Int32 × Int32) (r : Int32), qX10_sumOfUses_29 σ l1 l2 l4 n s = some r → sW X 6 cs σ 80 [some (.ref (sad X 123)), some (.int l1), some (.int l2), some (.int r), some (.int l4), none] [] → sW X 6 cs σ 29 [some (.ref (sad X 123)), some (.int l1), some (.int l2), some (.int s.1), some (.int l4), some (.int s.2)] [] := by
  refine lp_ind (P := fun (s : Int32 × Int32) (r : Int32) => sW X 6 cs σ 80 [some (.ref (sad X 123)), some (.int l1), some (.int l2), some (.int r), some (.int l4), none] [] → sW X 6 cs σ 29 [some (.ref (sad X 123)), some (.int l1), some (.int l2), some (.int s.1), some (.int l4), some (.int s.2)] []) ?_
  intro rec hrec s r h0 hk
  obtain ⟨x3, x5⟩ := s
  have h : gX10_sumOfUses_29 σ l1 l2 l4 rec x3 x5 = some r := h0
  unfold gX10_sumOfUses_29 at h
  show sW X 6 cs σ 29 [some (.ref (sad X 123)), some (.int l1), some (.int l2), some (.int x3), some (.int l4), some (.int x5)] []
  refine s_iload hX dX10_sumOfUses_29 rfl ?_
  refine s_aload_n hX dX10_sumOfUses_31 rfl ?_
  refine s_getR (r := 124) hX fo_RX10_23_9 SH_123 rfl dX10_sumOfUses_32 ?_
  refine s_iload hX dX10_sumOfUses_35 rfl ?_
  obtain ⟨c1, h⟩ := gd_some h
  refine s_iald hX SH_124 c1 dX10_sumOfUses_37 ?_
  refine s_ic_ge (tgt := 80) hX dX10_sumOfUses_38 (by decide) (fun c10 => ?_) (fun c10 => ?_)
  · replace h := (if_pos c10).symm.trans h
    obtain rfl := rt1 h
    refine s_mask [true, true, true, true, true, false] ?_
    exact hk
  · replace h := (if_neg c10).symm.trans h
    refine s_iload_n hX dX10_sumOfUses_41 rfl ?_
    refine s_aload_n hX dX10_sumOfUses_42 rfl ?_
    refine s_bipush 8 hX dX10_sumOfUses_43 (by decide) ?_
    refine s_iload hX dX10_sumOfUses_45 rfl ?_
    refine s_imul hX dX10_sumOfUses_47 ?_
    refine s_iload hX dX10_sumOfUses_48 rfl ?_
    refine s_iadd hX dX10_sumOfUses_50 ?_
    obtain ⟨r2, hc, h⟩ := bn_some h
    refine s_callVI _ hX (cX10_usesOf_ok (sl X)  hc) SH_123 mv_RX10_245_9 (fun _ => rfl) (by decide) (Nat.le_of_ble_eq_true rfl) hcs dX10_sumOfUses_51 rfl ?_
    refine s_iload_n hX dX10_sumOfUses_54 rfl ?_
    obtain ⟨r3, hc, h⟩ := bn_some h
    refine s_callSI _ hX (cX10_has_ok (sl X)  hc) ms_RX10_255 (fun _ => rfl) (by decide) (Nat.le_of_ble_eq_true rfl) hcs dX10_sumOfUses_55 rfl ?_
    refine s_if_eq (tgt := 71) hX dX10_sumOfUses_58 (by decide) (fun c9 => ?_) (fun c9 => ?_)
    · replace h := (if_pos c9).symm.trans h
      refine s_iconst 0 hX dX10_sumOfUses_71 (by decide) ?_
      refine s_iadd hX dX10_sumOfUses_72 ?_
      obtain ⟨v4, ev4, h⟩ := bd_some h
      refine s_topi v4 ev4 ?_
      refine s_istore_n hX dX10_sumOfUses_73 (by decide) ?_
      obtain ⟨v5, ev5, h⟩ := bd_some h
      refine s_iinc v5 hX dX10_sumOfUses_74 rfl (by rw [ev5]; rfl) (by decide) ?_
      refine s_goto (tgt := 29) hX dX10_sumOfUses_77 (by decide) ?_
      refine s_mask [true, true, true, true, true, true] ?_
      exact hrec _ _ h hk
    · replace h := (if_neg c9).symm.trans h
      refine s_aload_n hX dX10_sumOfUses_61 rfl ?_
      refine s_getR (r := 129) hX fo_RX10_39_9 SH_123 rfl dX10_sumOfUses_62 ?_
      refine s_iload hX dX10_sumOfUses_65 rfl ?_
      obtain ⟨c6, h⟩ := gd_some h
      refine s_iald hX SH_129 c6 dX10_sumOfUses_67 ?_
      refine s_goto (tgt := 72) hX dX10_sumOfUses_68 (by decide) ?_
      refine s_iadd hX dX10_sumOfUses_72 ?_
      obtain ⟨v7, ev7, h⟩ := bd_some h
      refine s_topi v7 ev7 ?_
      refine s_istore_n hX dX10_sumOfUses_73 (by decide) ?_
      obtain ⟨v8, ev8, h⟩ := bd_some h
      refine s_iinc v8 hX dX10_sumOfUses_74 rfl (by rw [ev8]; rfl) (by decide) ?_
      refine s_goto (tgt := 29) hX dX10_sumOfUses_77 (by decide) ?_
      refine s_mask [true, true, true, true, true, true] ?_
      exact hrec _ _ h hk
set_option maxHeartbeats 4000000 in
theorem pX10_sumOfUses_5 {X : sT} {cs : Nat × Nat} (hX : sX X cX10_sumOfUses RX10 6 1 21) (hcs : cs.1 ≤ (sR X).cells ∧ cs.2 ≤ (sR X).slots) (σ : Mm) (l1 : Int32) (l2 : Int32)  : ∀ (n : Nat) (s : Int32 × Int32) (r : Int32), qX10_sumOfUses_5 σ l1 l2 n s = some r → sW X 6 cs σ 113 [none, none, none, some (.int r), none, none] [] → sW X 6 cs σ 5 [some (.ref (sad X 123)), some (.int l1), some (.int l2), some (.int s.1), some (.int s.2), none] [] := by
  refine lp_ind (P := fun (s : Int32 × Int32) (r : Int32) => sW X 6 cs σ 113 [none, none, none, some (.int r), none, none] [] → sW X 6 cs σ 5 [some (.ref (sad X 123)), some (.int l1), some (.int l2), some (.int s.1), some (.int s.2), none] []) ?_
  intro rec hrec s r h0 hk
  obtain ⟨x3, x4⟩ := s
  have h : gX10_sumOfUses_5 σ l1 l2 rec x3 x4 = some r := h0
  unfold gX10_sumOfUses_5 at h
  show sW X 6 cs σ 5 [some (.ref (sad X 123)), some (.int l1), some (.int l2), some (.int x3), some (.int x4), none] []
  refine s_iload hX dX10_sumOfUses_5 rfl ?_
  refine s_aload_n hX dX10_sumOfUses_7 rfl ?_
  refine s_getI hX fo_RX10_17_9 SH_123 rfl dX10_sumOfUses_8 ?_
  refine s_ic_ge (tgt := 113) hX dX10_sumOfUses_11 (by decide) (fun c13 => ?_) (fun c13 => ?_)
  · replace h := (if_pos c13).symm.trans h
    obtain rfl := rt1 h
    refine s_mask [false, false, false, true, false, false] ?_
    exact hk
  · replace h := (if_neg c13).symm.trans h
    refine s_iload_n hX dX10_sumOfUses_14 rfl ?_
    refine s_iload hX dX10_sumOfUses_15 rfl ?_
    obtain ⟨r1, hc, h⟩ := bn_some h
    refine s_callSI _ hX (cX10_has_ok (sl X)  hc) ms_RX10_255 (fun _ => rfl) (by decide) (Nat.le_of_ble_eq_true rfl) hcs dX10_sumOfUses_17 rfl ?_
    refine s_if_ne (tgt := 26) hX dX10_sumOfUses_20 (by decide) (fun c12 => ?_) (fun c12 => ?_)
    · replace h := (if_neg c12).symm.trans h
      refine s_iconst 0 hX dX10_sumOfUses_26 (by decide) ?_
      refine s_istore hX dX10_sumOfUses_27 (by decide) ?_
      obtain ⟨v2, hc, h⟩ := bn_some h
      refine s_mask [true, true, true, true, true, true] ?_
      refine pX10_sumOfUses_29 hX hcs _ _ _ _ _ _ _ hc ?_
      refine s_iload_n hX dX10_sumOfUses_80 rfl ?_
      refine s_aload_n hX dX10_sumOfUses_81 rfl ?_
      refine s_iload hX dX10_sumOfUses_82 rfl ?_
      obtain ⟨r3, hc, h⟩ := bn_some h
      refine s_callVI _ hX (cX10_endUse_ok (sl X)  hc) SH_123 mv_RX10_242_9 (fun _ => rfl) (by decide) (Nat.le_of_ble_eq_true rfl) hcs dX10_sumOfUses_84 rfl ?_
      refine s_iload_n hX dX10_sumOfUses_87 rfl ?_
      obtain ⟨r4, hc, h⟩ := bn_some h
      refine s_callSI _ hX (cX10_has_ok (sl X)  hc) ms_RX10_255 (fun _ => rfl) (by decide) (Nat.le_of_ble_eq_true rfl) hcs dX10_sumOfUses_88 rfl ?_
      refine s_if_eq (tgt := 104) hX dX10_sumOfUses_91 (by decide) (fun c10 => ?_) (fun c10 => ?_)
      · replace h := (if_pos c10).symm.trans h
        refine s_iconst 0 hX dX10_sumOfUses_104 (by decide) ?_
        refine s_iadd hX dX10_sumOfUses_105 ?_
        obtain ⟨v5, ev5, h⟩ := bd_some h
        refine s_topi v5 ev5 ?_
        refine s_istore_n hX dX10_sumOfUses_106 (by decide) ?_
        obtain ⟨v6, ev6, h⟩ := bd_some h
        refine s_iinc v6 hX dX10_sumOfUses_107 rfl (by rw [ev6]; rfl) (by decide) ?_
        refine s_goto (tgt := 5) hX dX10_sumOfUses_110 (by decide) ?_
        refine s_mask [true, true, true, true, true, false] ?_
        exact hrec _ _ h hk
      · replace h := (if_neg c10).symm.trans h
        refine s_aload_n hX dX10_sumOfUses_94 rfl ?_
        refine s_getR (r := 129) hX fo_RX10_39_9 SH_123 rfl dX10_sumOfUses_95 ?_
        refine s_iload hX dX10_sumOfUses_98 rfl ?_
        obtain ⟨c7, h⟩ := gd_some h
        refine s_iald hX SH_129 c7 dX10_sumOfUses_100 ?_
        refine s_goto (tgt := 105) hX dX10_sumOfUses_101 (by decide) ?_
        refine s_iadd hX dX10_sumOfUses_105 ?_
        obtain ⟨v8, ev8, h⟩ := bd_some h
        refine s_topi v8 ev8 ?_
        refine s_istore_n hX dX10_sumOfUses_106 (by decide) ?_
        obtain ⟨v9, ev9, h⟩ := bd_some h
        refine s_iinc v9 hX dX10_sumOfUses_107 rfl (by rw [ev9]; rfl) (by decide) ?_
        refine s_goto (tgt := 5) hX dX10_sumOfUses_110 (by decide) ?_
        refine s_mask [true, true, true, true, true, false] ?_
        exact hrec _ _ h hk
    · replace h := (if_pos c12).symm.trans h
      refine s_goto (tgt := 107) hX dX10_sumOfUses_23 (by decide) ?_
      obtain ⟨v11, ev11, h⟩ := bd_some h
      refine s_iinc v11 hX dX10_sumOfUses_107 rfl (by rw [ev11]; rfl) (by decide) ?_
      refine s_goto (tgt := 5) hX dX10_sumOfUses_110 (by decide) ?_
      refine s_mask [true, true, true, true, true, false] ?_
      exact hrec _ _ h hk
set_option maxHeartbeats 4000000 in
theorem cX10_sumOfUses_ok (l : Launch) {σ : Mm} {l1 : Int32} {l2 : Int32} {r : Int32}  (h : fX10_sumOfUses σ l1 l2 = some r) : cI l yX10_sumOfUses cX10_sumOfUses 6 .int 1 21 (fun ad => [.ref (ad 123), .int l1, .int l2]) σ r σ := by
  refine c_enterI (fun ad => [some (.ref (ad 123)), some (.int l1), some (.int l2), none, none, none]) (by decide) (fun ad => ⟨by simp [Value.category], Nat.le_of_ble_eq_true rfl⟩) (fun ad => ⟨3, rfl⟩) ?_
  intro X _ hX hret
  have hcs : ((0 : Nat), (0 : Nat)).1 ≤ (sR X).cells ∧ ((0 : Nat), (0 : Nat)).2 ≤ (sR X).slots := ⟨Nat.zero_le _, Nat.zero_le _⟩
  generalize hcs0 : ((0 : Nat), (0 : Nat)) = cs at hcs hret ⊢
  unfold fX10_sumOfUses at h
  show sW X 6 cs σ 0 [some (.ref (sad X 123)), some (.int l1), some (.int l2), none, none, none] []
  refine s_iconst 0 hX dX10_sumOfUses_0 (by decide) ?_
  refine s_istore_n hX dX10_sumOfUses_1 (by decide) ?_
  refine s_iconst 0 hX dX10_sumOfUses_2 (by decide) ?_
  refine s_istore hX dX10_sumOfUses_3 (by decide) ?_
  obtain ⟨v1, hc, h⟩ := bn_some h
  refine s_mask [true, true, true, true, true, false] ?_
  refine pX10_sumOfUses_5 hX hcs _ _ _ _ _ _ hc ?_
  refine s_iload_n hX dX10_sumOfUses_113 rfl ?_
  obtain rfl := rt1 h
  exact hret _ _ (nzi _) dX10_sumOfUses_114
def gX10_sumOfTargets_17 (σ : Mm) (l1 : Int32) (l2 : Int32) (l4 : Int32) (rec : Int32 × Int32 → Option (Int32)) (x3 : Int32) (x5 : Int32) : Option (Int32) :=
  gd l4 8 <|
  if (σ 124 l4.toNatClampNeg) ≤ x5 then
  some x3
else
  (fX10_has σ l2 l4).bind fun r2 =>
  if r2 = 0 then
  some x3
else
  gd ((8 * l4) + x5) 64 <|
  if (σ 131 ((8 * l4) + x5).toNatClampNeg) = l1 then
  gd l4 8 <|
  bd (x3 + (σ 129 l4.toNatClampNeg)) fun v7 =>
  bd (x5 + 1) fun v8 =>
  rec (v7, v8)
else
  bd (x3 + 0) fun v4 =>
  bd (x5 + 1) fun v5 =>
  rec (v4, v5)
def qX10_sumOfTargets_17 (σ : Mm) (l1 : Int32) (l2 : Int32) (l4 : Int32) : Nat → Int32 × Int32 → Option (Int32) := lp (fun rec s => gX10_sumOfTargets_17 σ l1 l2 l4 rec s.1 s.2)
def gX10_sumOfTargets_5 (σ : Mm) (l1 : Int32) (l2 : Int32) (rec : Int32 × Int32 → Option (Int32)) (x3 : Int32) (x4 : Int32) : Option (Int32) :=
  if (σ 123 1) ≤ x4 then
  some x3
else
  (qX10_sumOfTargets_17 σ l1 l2 x4 FU (x3, 0)).bind fun v1 =>
  bd (x4 + 1) fun v2 =>
  rec (v1, v2)
def qX10_sumOfTargets_5 (σ : Mm) (l1 : Int32) (l2 : Int32) : Nat → Int32 × Int32 → Option (Int32) := lp (fun rec s => gX10_sumOfTargets_5 σ l1 l2 rec s.1 s.2)
def fX10_sumOfTargets (σ : Mm) (l1 : Int32) (l2 : Int32) : Option Int32 :=
  (qX10_sumOfTargets_5 σ l1 l2 FU (0, 0)).bind fun v1 =>
  some v1
set_option maxHeartbeats 4000000 in
theorem pX10_sumOfTargets_17 {X : sT} {cs : Nat × Nat} (hX : sX X cX10_sumOfTargets RX10 6 1 21) (hcs : cs.1 ≤ (sR X).cells ∧ cs.2 ≤ (sR X).slots) (σ : Mm) (l1 : Int32) (l2 : Int32) (l4 : Int32)  : ∀ (n : Nat) (s : Int32 × Int32) (r : Int32), qX10_sumOfTargets_17 σ l1 l2 l4 n s = some r → sW X 6 cs σ 75 [some (.ref (sad X 123)), some (.int l1), some (.int l2), some (.int r), some (.int l4), none] [] → sW X 6 cs σ 17 [some (.ref (sad X 123)), some (.int l1), some (.int l2), some (.int s.1), some (.int l4), some (.int s.2)] [] := by
  refine lp_ind (P := fun (s : Int32 × Int32) (r : Int32) => sW X 6 cs σ 75 [some (.ref (sad X 123)), some (.int l1), some (.int l2), some (.int r), some (.int l4), none] [] → sW X 6 cs σ 17 [some (.ref (sad X 123)), some (.int l1), some (.int l2), some (.int s.1), some (.int l4), some (.int s.2)] []) ?_
  intro rec hrec s r h0 hk
  obtain ⟨x3, x5⟩ := s
  have h : gX10_sumOfTargets_17 σ l1 l2 l4 rec x3 x5 = some r := h0
  unfold gX10_sumOfTargets_17 at h
  show sW X 6 cs σ 17 [some (.ref (sad X 123)), some (.int l1), some (.int l2), some (.int x3), some (.int l4), some (.int x5)] []
  refine s_iload hX dX10_sumOfTargets_17 rfl ?_
  refine s_aload_n hX dX10_sumOfTargets_19 rfl ?_
  refine s_getR (r := 124) hX fo_RX10_23_9 SH_123 rfl dX10_sumOfTargets_20 ?_
  refine s_iload hX dX10_sumOfTargets_23 rfl ?_
  obtain ⟨c1, h⟩ := gd_some h
  refine s_iald hX SH_124 c1 dX10_sumOfTargets_25 ?_
  refine s_ic_ge (tgt := 75) hX dX10_sumOfTargets_26 (by decide) (fun c11 => ?_) (fun c11 => ?_)
  · replace h := (if_pos c11).symm.trans h
    obtain rfl := rt1 h
    refine s_mask [true, true, true, true, true, false] ?_
    exact hk
  · replace h := (if_neg c11).symm.trans h
    refine s_iload_n hX dX10_sumOfTargets_29 rfl ?_
    refine s_iload hX dX10_sumOfTargets_30 rfl ?_
    obtain ⟨r2, hc, h⟩ := bn_some h
    refine s_callSI _ hX (cX10_has_ok (sl X)  hc) ms_RX10_255 (fun _ => rfl) (by decide) (Nat.le_of_ble_eq_true rfl) hcs dX10_sumOfTargets_32 rfl ?_
    refine s_if_eq (tgt := 75) hX dX10_sumOfTargets_35 (by decide) (fun c10 => ?_) (fun c10 => ?_)
    · replace h := (if_pos c10).symm.trans h
      obtain rfl := rt1 h
      refine s_mask [true, true, true, true, true, false] ?_
      exact hk
    · replace h := (if_neg c10).symm.trans h
      refine s_iload_n hX dX10_sumOfTargets_38 rfl ?_
      refine s_aload_n hX dX10_sumOfTargets_39 rfl ?_
      refine s_getR (r := 131) hX fo_RX10_45_9 SH_123 rfl dX10_sumOfTargets_40 ?_
      refine s_bipush 8 hX dX10_sumOfTargets_43 (by decide) ?_
      refine s_iload hX dX10_sumOfTargets_45 rfl ?_
      refine s_imul hX dX10_sumOfTargets_47 ?_
      refine s_iload hX dX10_sumOfTargets_48 rfl ?_
      refine s_iadd hX dX10_sumOfTargets_50 ?_
      obtain ⟨c3, h⟩ := gd_some h
      refine s_iald hX SH_131 c3 dX10_sumOfTargets_51 ?_
      refine s_iload_n hX dX10_sumOfTargets_52 rfl ?_
      refine s_ic_ne (tgt := 66) hX dX10_sumOfTargets_53 (by decide) (fun c9 => ?_) (fun c9 => ?_)
      · replace h := (if_neg c9).symm.trans h
        refine s_iconst 0 hX dX10_sumOfTargets_66 (by decide) ?_
        refine s_iadd hX dX10_sumOfTargets_67 ?_
        obtain ⟨v4, ev4, h⟩ := bd_some h
        refine s_topi v4 ev4 ?_
        refine s_istore_n hX dX10_sumOfTargets_68 (by decide) ?_
        obtain ⟨v5, ev5, h⟩ := bd_some h
        refine s_iinc v5 hX dX10_sumOfTargets_69 rfl (by rw [ev5]; rfl) (by decide) ?_
        refine s_goto (tgt := 17) hX dX10_sumOfTargets_72 (by decide) ?_
        refine s_mask [true, true, true, true, true, true] ?_
        exact hrec _ _ h hk
      · replace h := (if_pos c9).symm.trans h
        refine s_aload_n hX dX10_sumOfTargets_56 rfl ?_
        refine s_getR (r := 129) hX fo_RX10_39_9 SH_123 rfl dX10_sumOfTargets_57 ?_
        refine s_iload hX dX10_sumOfTargets_60 rfl ?_
        obtain ⟨c6, h⟩ := gd_some h
        refine s_iald hX SH_129 c6 dX10_sumOfTargets_62 ?_
        refine s_goto (tgt := 67) hX dX10_sumOfTargets_63 (by decide) ?_
        refine s_iadd hX dX10_sumOfTargets_67 ?_
        obtain ⟨v7, ev7, h⟩ := bd_some h
        refine s_topi v7 ev7 ?_
        refine s_istore_n hX dX10_sumOfTargets_68 (by decide) ?_
        obtain ⟨v8, ev8, h⟩ := bd_some h
        refine s_iinc v8 hX dX10_sumOfTargets_69 rfl (by rw [ev8]; rfl) (by decide) ?_
        refine s_goto (tgt := 17) hX dX10_sumOfTargets_72 (by decide) ?_
        refine s_mask [true, true, true, true, true, true] ?_
        exact hrec _ _ h hk
set_option maxHeartbeats 4000000 in
theorem pX10_sumOfTargets_5 {X : sT} {cs : Nat × Nat} (hX : sX X cX10_sumOfTargets RX10 6 1 21) (hcs : cs.1 ≤ (sR X).cells ∧ cs.2 ≤ (sR X).slots) (σ : Mm) (l1 : Int32) (l2 : Int32)  : ∀ (n : Nat) (s : Int32 × Int32) (r : Int32), qX10_sumOfTargets_5 σ l1 l2 n s = some r → sW X 6 cs σ 81 [none, none, none, some (.int r), none, none] [] → sW X 6 cs σ 5 [some (.ref (sad X 123)), some (.int l1), some (.int l2), some (.int s.1), some (.int s.2), none] [] := by
  refine lp_ind (P := fun (s : Int32 × Int32) (r : Int32) => sW X 6 cs σ 81 [none, none, none, some (.int r), none, none] [] → sW X 6 cs σ 5 [some (.ref (sad X 123)), some (.int l1), some (.int l2), some (.int s.1), some (.int s.2), none] []) ?_
  intro rec hrec s r h0 hk
  obtain ⟨x3, x4⟩ := s
  have h : gX10_sumOfTargets_5 σ l1 l2 rec x3 x4 = some r := h0
  unfold gX10_sumOfTargets_5 at h
  show sW X 6 cs σ 5 [some (.ref (sad X 123)), some (.int l1), some (.int l2), some (.int x3), some (.int x4), none] []
  refine s_iload hX dX10_sumOfTargets_5 rfl ?_
  refine s_aload_n hX dX10_sumOfTargets_7 rfl ?_
  refine s_getI hX fo_RX10_17_9 SH_123 rfl dX10_sumOfTargets_8 ?_
  refine s_ic_ge (tgt := 81) hX dX10_sumOfTargets_11 (by decide) (fun c3 => ?_) (fun c3 => ?_)
  · replace h := (if_pos c3).symm.trans h
    obtain rfl := rt1 h
    refine s_mask [false, false, false, true, false, false] ?_
    exact hk
  · replace h := (if_neg c3).symm.trans h
    refine s_iconst 0 hX dX10_sumOfTargets_14 (by decide) ?_
    refine s_istore hX dX10_sumOfTargets_15 (by decide) ?_
    obtain ⟨v1, hc, h⟩ := bn_some h
    refine s_mask [true, true, true, true, true, true] ?_
    refine pX10_sumOfTargets_17 hX hcs _ _ _ _ _ _ _ hc ?_
    obtain ⟨v2, ev2, h⟩ := bd_some h
    refine s_iinc v2 hX dX10_sumOfTargets_75 rfl (by rw [ev2]; rfl) (by decide) ?_
    refine s_goto (tgt := 5) hX dX10_sumOfTargets_78 (by decide) ?_
    refine s_mask [true, true, true, true, true, false] ?_
    exact hrec _ _ h hk
set_option maxHeartbeats 4000000 in
theorem cX10_sumOfTargets_ok (l : Launch) {σ : Mm} {l1 : Int32} {l2 : Int32} {r : Int32}  (h : fX10_sumOfTargets σ l1 l2 = some r) : cI l yX10_sumOfTargets cX10_sumOfTargets 6 .int 1 21 (fun ad => [.ref (ad 123), .int l1, .int l2]) σ r σ := by
  refine c_enterI (fun ad => [some (.ref (ad 123)), some (.int l1), some (.int l2), none, none, none]) (by decide) (fun ad => ⟨by simp [Value.category], Nat.le_of_ble_eq_true rfl⟩) (fun ad => ⟨3, rfl⟩) ?_
  intro X _ hX hret
  have hcs : ((0 : Nat), (0 : Nat)).1 ≤ (sR X).cells ∧ ((0 : Nat), (0 : Nat)).2 ≤ (sR X).slots := ⟨Nat.zero_le _, Nat.zero_le _⟩
  generalize hcs0 : ((0 : Nat), (0 : Nat)) = cs at hcs hret ⊢
  unfold fX10_sumOfTargets at h
  show sW X 6 cs σ 0 [some (.ref (sad X 123)), some (.int l1), some (.int l2), none, none, none] []
  refine s_iconst 0 hX dX10_sumOfTargets_0 (by decide) ?_
  refine s_istore_n hX dX10_sumOfTargets_1 (by decide) ?_
  refine s_iconst 0 hX dX10_sumOfTargets_2 (by decide) ?_
  refine s_istore hX dX10_sumOfTargets_3 (by decide) ?_
  obtain ⟨v1, hc, h⟩ := bn_some h
  refine s_mask [true, true, true, true, true, false] ?_
  refine pX10_sumOfTargets_5 hX hcs _ _ _ _ _ _ hc ?_
  refine s_iload_n hX dX10_sumOfTargets_81 rfl ?_
  obtain rfl := rt1 h
  exact hret _ _ (nzi _) dX10_sumOfTargets_82
def fX10_all (σ : Mm) : Option Int32 :=
  some ((1 <<< ((σ 123 1) &&& 31)) - 1)
set_option maxHeartbeats 4000000 in
theorem cX10_all_ok (l : Launch) {σ : Mm} {r : Int32}  (h : fX10_all σ = some r) : cI l yX10_all cX10_all 1 .int 0 0 (fun ad => [.ref (ad 123)]) σ r σ := by
  refine c_enterI (fun ad => [some (.ref (ad 123))]) (by decide) (fun ad => ⟨by simp [Value.category], Nat.le_of_ble_eq_true rfl⟩) (fun ad => ⟨0, rfl⟩) ?_
  intro X _ hX hret
  have hcs : ((0 : Nat), (0 : Nat)).1 ≤ (sR X).cells ∧ ((0 : Nat), (0 : Nat)).2 ≤ (sR X).slots := ⟨Nat.zero_le _, Nat.zero_le _⟩
  generalize hcs0 : ((0 : Nat), (0 : Nat)) = cs at hcs hret ⊢
  unfold fX10_all at h
  show sW X 1 cs σ 0 [some (.ref (sad X 123))] []
  refine s_iconst 1 hX dX10_all_0 (by decide) ?_
  refine s_aload_n hX dX10_all_1 rfl ?_
  refine s_getI hX fo_RX10_17_9 SH_123 rfl dX10_all_2 ?_
  refine s_ishl hX dX10_all_5 ?_
  refine s_iconst 1 hX dX10_all_6 (by decide) ?_
  refine s_isub hX dX10_all_7 ?_
  obtain rfl := rt1 h
  exact hret _ _ (nzi _) dX10_all_8
def fX10_memoryCost (σ : Mm) (l1 : Int32) : Option Int32 :=
  (fX10_all σ).bind fun r1 =>
  (fX10_sumOfUses σ l1 r1).bind fun r2 =>
  (fX10_all σ).bind fun r3 =>
  (fX10_sumOfTargets σ l1 r3).bind fun r4 =>
  gd 0 8 <|
  (fX10_has σ (σ 135 (Int32.toNatClampNeg 0)) l1).bind fun r6 =>
  if r6 = 0 then
  some (3 * ((r2 + r4) + 0))
else
  gd 0 8 <|
  some (3 * ((r2 + r4) + (σ 129 (Int32.toNatClampNeg 0))))
set_option maxHeartbeats 4000000 in
theorem cX10_memoryCost_ok (l : Launch) {σ : Mm} {l1 : Int32} {r : Int32}  (h : fX10_memoryCost σ l1 = some r) : cI l yX10_memoryCost cX10_memoryCost 2 .int 2 46 (fun ad => [.ref (ad 123), .int l1]) σ r σ := by
  refine c_enterI (fun ad => [some (.ref (ad 123)), some (.int l1)]) (by decide) (fun ad => ⟨by simp [Value.category], Nat.le_of_ble_eq_true rfl⟩) (fun ad => ⟨0, rfl⟩) ?_
  intro X _ hX hret
  have hcs : ((0 : Nat), (0 : Nat)).1 ≤ (sR X).cells ∧ ((0 : Nat), (0 : Nat)).2 ≤ (sR X).slots := ⟨Nat.zero_le _, Nat.zero_le _⟩
  generalize hcs0 : ((0 : Nat), (0 : Nat)) = cs at hcs hret ⊢
  unfold fX10_memoryCost at h
  show sW X 2 cs σ 0 [some (.ref (sad X 123)), some (.int l1)] []
  refine s_iconst 3 hX dX10_memoryCost_0 (by decide) ?_
  refine s_aload_n hX dX10_memoryCost_1 rfl ?_
  refine s_iload_n hX dX10_memoryCost_2 rfl ?_
  refine s_aload_n hX dX10_memoryCost_3 rfl ?_
  obtain ⟨r1, hc, h⟩ := bn_some h
  refine s_callVI _ hX (cX10_all_ok (sl X)  hc) SH_123 mv_RX10_282_9 (fun _ => rfl) (by decide) (Nat.le_of_ble_eq_true rfl) hcs dX10_memoryCost_4 rfl ?_
  obtain ⟨r2, hc, h⟩ := bn_some h
  refine s_callVI _ hX (cX10_sumOfUses_ok (sl X)  hc) SH_123 mv_RX10_286_9 (fun _ => rfl) (by decide) (Nat.le_of_ble_eq_true rfl) hcs dX10_memoryCost_7 rfl ?_
  refine s_aload_n hX dX10_memoryCost_10 rfl ?_
  refine s_iload_n hX dX10_memoryCost_11 rfl ?_
  refine s_aload_n hX dX10_memoryCost_12 rfl ?_
  obtain ⟨r3, hc, h⟩ := bn_some h
  refine s_callVI _ hX (cX10_all_ok (sl X)  hc) SH_123 mv_RX10_282_9 (fun _ => rfl) (by decide) (Nat.le_of_ble_eq_true rfl) hcs dX10_memoryCost_13 rfl ?_
  obtain ⟨r4, hc, h⟩ := bn_some h
  refine s_callVI _ hX (cX10_sumOfTargets_ok (sl X)  hc) SH_123 mv_RX10_289_9 (fun _ => rfl) (by decide) (Nat.le_of_ble_eq_true rfl) hcs dX10_memoryCost_16 rfl ?_
  refine s_iadd hX dX10_memoryCost_19 ?_
  refine s_aload_n hX dX10_memoryCost_20 rfl ?_
  refine s_getR (r := 135) hX fo_RX10_61_9 SH_123 rfl dX10_memoryCost_21 ?_
  refine s_iconst 0 hX dX10_memoryCost_24 (by decide) ?_
  obtain ⟨c5, h⟩ := gd_some h
  refine s_iald hX SH_135 c5 dX10_memoryCost_25 ?_
  refine s_iload_n hX dX10_memoryCost_26 rfl ?_
  obtain ⟨r6, hc, h⟩ := bn_some h
  refine s_callSI _ hX (cX10_has_ok (sl X)  hc) ms_RX10_255 (fun _ => rfl) (by decide) (Nat.le_of_ble_eq_true rfl) hcs dX10_memoryCost_27 rfl ?_
  refine s_if_eq (tgt := 42) hX dX10_memoryCost_30 (by decide) (fun c8 => ?_) (fun c8 => ?_)
  · replace h := (if_pos c8).symm.trans h
    refine s_iconst 0 hX dX10_memoryCost_42 (by decide) ?_
    refine s_iadd hX dX10_memoryCost_43 ?_
    refine s_imul hX dX10_memoryCost_44 ?_
    obtain rfl := rt1 h
    exact hret _ _ (nzi _) dX10_memoryCost_45
  · replace h := (if_neg c8).symm.trans h
    refine s_aload_n hX dX10_memoryCost_33 rfl ?_
    refine s_getR (r := 129) hX fo_RX10_39_9 SH_123 rfl dX10_memoryCost_34 ?_
    refine s_iconst 0 hX dX10_memoryCost_37 (by decide) ?_
    obtain ⟨c7, h⟩ := gd_some h
    refine s_iald hX SH_129 c7 dX10_memoryCost_38 ?_
    refine s_goto (tgt := 43) hX dX10_memoryCost_39 (by decide) ?_
    refine s_iadd hX dX10_memoryCost_43 ?_
    refine s_imul hX dX10_memoryCost_44 ?_
    obtain rfl := rt1 h
    exact hret _ _ (nzi _) dX10_memoryCost_45
def gX10_constantRow_15 (σ : Mm) (l1 : Int32) (l3 : Int32) (rec : Int32 × Int32 → Option (Int32 ⊕ (Int32))) (x2 : Int32) (x4 : Int32) : Option (Int32 ⊕ (Int32)) :=
  gd l3 8 <|
  if (σ 124 l3.toNatClampNeg) ≤ x4 then
  some (.inr x2)
else
  gd ((8 * l3) + x4) 64 <|
  if (σ 131 ((8 * l3) + x4).toNatClampNeg) = l1 then
  if 0 ≤ x2 then
  some (.inl (-1))
else
  gd ((8 * l3) + x4) 64 <|
  if (σ 130 ((8 * l3) + x4).toNatClampNeg) = 0 then
  bd ((8 * l3) + x4) fun v4 =>
  bd (x4 + 1) fun v5 =>
  rec (v4, v5)
else
  some (.inl (-1))
else
  bd (x4 + 1) fun v8 =>
  rec (x2, v8)
def qX10_constantRow_15 (σ : Mm) (l1 : Int32) (l3 : Int32) : Nat → Int32 × Int32 → Option (Int32 ⊕ (Int32)) := lp (fun rec s => gX10_constantRow_15 σ l1 l3 rec s.1 s.2)
def gX10_constantRow_4 (σ : Mm) (l1 : Int32) (rec : Int32 × Int32 → Option (Int32 ⊕ (Int32))) (x2 : Int32) (x3 : Int32) : Option (Int32 ⊕ (Int32)) :=
  if (σ 123 1) ≤ x3 then
  some (.inr x2)
else
  bns (qX10_constantRow_15 σ l1 x3 FU (x2, 0)) (fun u => some (.inl u)) (fun v1 => bd (x3 + 1) fun v2 =>
  rec (v1, v2))
def qX10_constantRow_4 (σ : Mm) (l1 : Int32) : Nat → Int32 × Int32 → Option (Int32 ⊕ (Int32)) := lp (fun rec s => gX10_constantRow_4 σ l1 rec s.1 s.2)
def fX10_constantRow (σ : Mm) (l1 : Int32) : Option Int32 :=
  bns (qX10_constantRow_4 σ l1 FU ((-1), 0)) (fun u => some u) (fun v1 => gd 0 8 <|
  (fX10_has σ (σ 135 (Int32.toNatClampNeg 0)) l1).bind fun r3 =>
  if r3 = 0 then
  some v1
else
  some (-1))
set_option maxHeartbeats 4000000 in
theorem pX10_constantRow_15 {X : sT} {cs : Nat × Nat} (hX : sX X cX10_constantRow RX10 5 1 21) (hcs : cs.1 ≤ (sR X).cells ∧ cs.2 ≤ (sR X).slots) (σ : Mm) (l1 : Int32) (l3 : Int32)  : ∀ (n : Nat) (s : Int32 × Int32) (r : Int32 ⊕ (Int32)), qX10_constantRow_15 σ l1 l3 n s = some r → (∀ u, r = .inr u → sW X 5 cs σ 80 [some (.ref (sad X 123)), some (.int l1), some (.int u), some (.int l3), none] []) → (∀ u, r = .inl u → ∀ pc L, narrow .int (.int u) = .int u → decode cX10_constantRow pc = .ok (.ireturn, 1) → sW X 5 cs σ pc L [.int u]) → sW X 5 cs σ 15 [some (.ref (sad X 123)), some (.int l1), some (.int s.1), some (.int l3), some (.int s.2)] [] := by
  refine lp_ind (P := fun (s : Int32 × Int32) (r : Int32 ⊕ (Int32)) => (∀ u, r = .inr u → sW X 5 cs σ 80 [some (.ref (sad X 123)), some (.int l1), some (.int u), some (.int l3), none] []) → (∀ u, r = .inl u → ∀ pc L, narrow .int (.int u) = .int u → decode cX10_constantRow pc = .ok (.ireturn, 1) → sW X 5 cs σ pc L [.int u]) → sW X 5 cs σ 15 [some (.ref (sad X 123)), some (.int l1), some (.int s.1), some (.int l3), some (.int s.2)] []) ?_
  intro rec hrec s r h0 hk hr
  obtain ⟨x2, x4⟩ := s
  have h : gX10_constantRow_15 σ l1 l3 rec x2 x4 = some r := h0
  unfold gX10_constantRow_15 at h
  show sW X 5 cs σ 15 [some (.ref (sad X 123)), some (.int l1), some (.int x2), some (.int l3), some (.int x4)] []
  refine s_iload hX dX10_constantRow_15 rfl ?_
  refine s_aload_n hX dX10_constantRow_17 rfl ?_
  refine s_getR (r := 124) hX fo_RX10_23_9 SH_123 rfl dX10_constantRow_18 ?_
  refine s_iload_n hX dX10_constantRow_21 rfl ?_
  obtain ⟨c1, h⟩ := gd_some h
  refine s_iald hX SH_124 c1 dX10_constantRow_22 ?_
  refine s_ic_ge (tgt := 80) hX dX10_constantRow_23 (by decide) (fun c10 => ?_) (fun c10 => ?_)
  · replace h := (if_pos c10).symm.trans h
    obtain rfl := rt1 h
    refine s_mask [true, true, true, true, false] ?_
    exact hk _ rfl
  · replace h := (if_neg c10).symm.trans h
    refine s_aload_n hX dX10_constantRow_26 rfl ?_
    refine s_getR (r := 131) hX fo_RX10_45_9 SH_123 rfl dX10_constantRow_27 ?_
    refine s_bipush 8 hX dX10_constantRow_30 (by decide) ?_
    refine s_iload_n hX dX10_constantRow_32 rfl ?_
    refine s_imul hX dX10_constantRow_33 ?_
    refine s_iload hX dX10_constantRow_34 rfl ?_
    refine s_iadd hX dX10_constantRow_36 ?_
    obtain ⟨c2, h⟩ := gd_some h
    refine s_iald hX SH_131 c2 dX10_constantRow_37 ?_
    refine s_iload_n hX dX10_constantRow_38 rfl ?_
    refine s_ic_eq (tgt := 45) hX dX10_constantRow_39 (by decide) (fun c9 => ?_) (fun c9 => ?_)
    · replace h := (if_pos c9).symm.trans h
      refine s_iload_n hX dX10_constantRow_45 rfl ?_
      refine s_if_ge (tgt := 64) hX dX10_constantRow_46 (by decide) (fun c7 => ?_) (fun c7 => ?_)
      · replace h := (if_pos c7).symm.trans h
        refine s_iconst (-1) hX dX10_constantRow_64 (by decide) ?_
        obtain rfl := rt1 h
        exact hr _ rfl _ _ (nzi _) dX10_constantRow_65
      · replace h := (if_neg c7).symm.trans h
        refine s_aload_n hX dX10_constantRow_49 rfl ?_
        refine s_getR (r := 130) hX fo_RX10_42_9 SH_123 rfl dX10_constantRow_50 ?_
        refine s_bipush 8 hX dX10_constantRow_53 (by decide) ?_
        refine s_iload_n hX dX10_constantRow_55 rfl ?_
        refine s_imul hX dX10_constantRow_56 ?_
        refine s_iload hX dX10_constantRow_57 rfl ?_
        refine s_iadd hX dX10_constantRow_59 ?_
        obtain ⟨c3, h⟩ := gd_some h
        refine s_iald hX SH_130 c3 dX10_constantRow_60 ?_
        refine s_if_eq (tgt := 66) hX dX10_constantRow_61 (by decide) (fun c6 => ?_) (fun c6 => ?_)
        · replace h := (if_pos c6).symm.trans h
          refine s_bipush 8 hX dX10_constantRow_66 (by decide) ?_
          refine s_iload_n hX dX10_constantRow_68 rfl ?_
          refine s_imul hX dX10_constantRow_69 ?_
          refine s_iload hX dX10_constantRow_70 rfl ?_
          refine s_iadd hX dX10_constantRow_72 ?_
          obtain ⟨v4, ev4, h⟩ := bd_some h
          refine s_topi v4 ev4 ?_
          refine s_istore_n hX dX10_constantRow_73 (by decide) ?_
          obtain ⟨v5, ev5, h⟩ := bd_some h
          refine s_iinc v5 hX dX10_constantRow_74 rfl (by rw [ev5]; rfl) (by decide) ?_
          refine s_goto (tgt := 15) hX dX10_constantRow_77 (by decide) ?_
          refine s_mask [true, true, true, true, true] ?_
          exact hrec _ _ h hk hr
        · replace h := (if_neg c6).symm.trans h
          refine s_iconst (-1) hX dX10_constantRow_64 (by decide) ?_
          obtain rfl := rt1 h
          exact hr _ rfl _ _ (nzi _) dX10_constantRow_65
    · replace h := (if_neg c9).symm.trans h
      refine s_goto (tgt := 74) hX dX10_constantRow_42 (by decide) ?_
      obtain ⟨v8, ev8, h⟩ := bd_some h
      refine s_iinc v8 hX dX10_constantRow_74 rfl (by rw [ev8]; rfl) (by decide) ?_
      refine s_goto (tgt := 15) hX dX10_constantRow_77 (by decide) ?_
      refine s_mask [true, true, true, true, true] ?_
      exact hrec _ _ h hk hr
set_option maxHeartbeats 4000000 in
theorem pX10_constantRow_4 {X : sT} {cs : Nat × Nat} (hX : sX X cX10_constantRow RX10 5 1 21) (hcs : cs.1 ≤ (sR X).cells ∧ cs.2 ≤ (sR X).slots) (σ : Mm) (l1 : Int32)  : ∀ (n : Nat) (s : Int32 × Int32) (r : Int32 ⊕ (Int32)), qX10_constantRow_4 σ l1 n s = some r → (∀ u, r = .inr u → sW X 5 cs σ 86 [some (.ref (sad X 123)), some (.int l1), some (.int u), none, none] []) → (∀ u, r = .inl u → ∀ pc L, narrow .int (.int u) = .int u → decode cX10_constantRow pc = .ok (.ireturn, 1) → sW X 5 cs σ pc L [.int u]) → sW X 5 cs σ 4 [some (.ref (sad X 123)), some (.int l1), some (.int s.1), some (.int s.2), none] [] := by
  refine lp_ind (P := fun (s : Int32 × Int32) (r : Int32 ⊕ (Int32)) => (∀ u, r = .inr u → sW X 5 cs σ 86 [some (.ref (sad X 123)), some (.int l1), some (.int u), none, none] []) → (∀ u, r = .inl u → ∀ pc L, narrow .int (.int u) = .int u → decode cX10_constantRow pc = .ok (.ireturn, 1) → sW X 5 cs σ pc L [.int u]) → sW X 5 cs σ 4 [some (.ref (sad X 123)), some (.int l1), some (.int s.1), some (.int s.2), none] []) ?_
  intro rec hrec s r h0 hk hr
  obtain ⟨x2, x3⟩ := s
  have h : gX10_constantRow_4 σ l1 rec x2 x3 = some r := h0
  unfold gX10_constantRow_4 at h
  show sW X 5 cs σ 4 [some (.ref (sad X 123)), some (.int l1), some (.int x2), some (.int x3), none] []
  refine s_iload_n hX dX10_constantRow_4 rfl ?_
  refine s_aload_n hX dX10_constantRow_5 rfl ?_
  refine s_getI hX fo_RX10_17_9 SH_123 rfl dX10_constantRow_6 ?_
  refine s_ic_ge (tgt := 86) hX dX10_constantRow_9 (by decide) (fun c3 => ?_) (fun c3 => ?_)
  · replace h := (if_pos c3).symm.trans h
    obtain rfl := rt1 h
    refine s_mask [true, true, true, false, false] ?_
    exact hk _ rfl
  · replace h := (if_neg c3).symm.trans h
    refine s_iconst 0 hX dX10_constantRow_12 (by decide) ?_
    refine s_istore hX dX10_constantRow_13 (by decide) ?_
    refine s_mask [true, true, true, true, true] ?_
    rcases bns_some h with ⟨u, hc, h⟩ | ⟨u, hc, h⟩
    · cases h
      exact pX10_constantRow_15 hX hcs _ _ _ _ _ _ hc (fun _ e => nomatch e) (fun w e pc L nn d => by cases e; exact hr _ rfl pc L nn d)
    · obtain ⟨v1, e0⟩ : ∃ z, z = u := ⟨u, rfl⟩
      subst e0
      refine pX10_constantRow_15 hX hcs _ _ _ _ _ _ hc (fun w e => ?_) (fun w e => nomatch e)
      cases e
      obtain ⟨v2, ev2, h⟩ := bd_some h
      refine s_iinc v2 hX dX10_constantRow_80 rfl (by rw [ev2]; rfl) (by decide) ?_
      refine s_goto (tgt := 4) hX dX10_constantRow_83 (by decide) ?_
      refine s_mask [true, true, true, true, false] ?_
      exact hrec _ _ h hk hr
set_option maxHeartbeats 4000000 in
theorem cX10_constantRow_ok (l : Launch) {σ : Mm} {l1 : Int32} {r : Int32}  (h : fX10_constantRow σ l1 = some r) : cI l yX10_constantRow cX10_constantRow 5 .int 1 21 (fun ad => [.ref (ad 123), .int l1]) σ r σ := by
  refine c_enterI (fun ad => [some (.ref (ad 123)), some (.int l1), none, none, none]) (by decide) (fun ad => ⟨by simp [Value.category], Nat.le_of_ble_eq_true rfl⟩) (fun ad => ⟨3, rfl⟩) ?_
  intro X _ hX hret
  have hcs : ((0 : Nat), (0 : Nat)).1 ≤ (sR X).cells ∧ ((0 : Nat), (0 : Nat)).2 ≤ (sR X).slots := ⟨Nat.zero_le _, Nat.zero_le _⟩
  generalize hcs0 : ((0 : Nat), (0 : Nat)) = cs at hcs hret ⊢
  unfold fX10_constantRow at h
  show sW X 5 cs σ 0 [some (.ref (sad X 123)), some (.int l1), none, none, none] []
  refine s_iconst (-1) hX dX10_constantRow_0 (by decide) ?_
  refine s_istore_n hX dX10_constantRow_1 (by decide) ?_
  refine s_iconst 0 hX dX10_constantRow_2 (by decide) ?_
  refine s_istore_n hX dX10_constantRow_3 (by decide) ?_
  refine s_mask [true, true, true, true, false] ?_
  rcases bns_some h with ⟨u, hc, h⟩ | ⟨u, hc, h⟩
  · cases h
    exact pX10_constantRow_4 hX hcs _ _ _ _ _ hc (fun _ e => nomatch e) (fun w e pc L nn d => by cases e; exact hret pc L nn d)
  · obtain ⟨v1, e0⟩ : ∃ z, z = u := ⟨u, rfl⟩
    subst e0
    refine pX10_constantRow_4 hX hcs _ _ _ _ _ hc (fun w e => ?_) (fun w e => nomatch e)
    cases e
    refine s_aload_n hX dX10_constantRow_86 rfl ?_
    refine s_getR (r := 135) hX fo_RX10_61_9 SH_123 rfl dX10_constantRow_87 ?_
    refine s_iconst 0 hX dX10_constantRow_90 (by decide) ?_
    obtain ⟨c2, h⟩ := gd_some h
    refine s_iald hX SH_135 c2 dX10_constantRow_91 ?_
    refine s_iload_n hX dX10_constantRow_92 rfl ?_
    obtain ⟨r3, hc, h⟩ := bn_some h
    refine s_callSI _ hX (cX10_has_ok (sl X)  hc) ms_RX10_255 (fun _ => rfl) (by decide) (Nat.le_of_ble_eq_true rfl) hcs dX10_constantRow_93 rfl ?_
    refine s_if_eq (tgt := 103) hX dX10_constantRow_96 (by decide) (fun c4 => ?_) (fun c4 => ?_)
    · replace h := (if_pos c4).symm.trans h
      refine s_iload_n hX dX10_constantRow_103 rfl ?_
      obtain rfl := rt1 h
      exact hret _ _ (nzi _) dX10_constantRow_104
    · replace h := (if_neg c4).symm.trans h
      refine s_iconst (-1) hX dX10_constantRow_99 (by decide) ?_
      refine s_goto (tgt := 104) hX dX10_constantRow_100 (by decide) ?_
      obtain rfl := rt1 h
      exact hret _ _ (nzi _) dX10_constantRow_104
