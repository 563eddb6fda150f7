theorem in01 : vp_in 0 1 := by unfold vp_in; decide
def fL_clear (σ : Mm) (l1 : Int32) : Option (Int32 × Mm) := (fX9_clear σ l1).bind (lwR [1])
set_option maxHeartbeats 4000000 in
theorem cL_clear_ok (l : Launch) (hl : l.stackTraces = false) {σ : Mm} {l1 : Int32} {r : Int32} {σ' : Mm} (h : fL_clear σ l1 = some (r, σ')) : cL l yL_clear cL_clear 4 [(0, 9, 12, 13)] 9 142 (fun ad => [.ref (ad 0), .int l1, .ref (ad 170)]) σ r σ' := by
  refine c_enterL (fun ad => [some (.ref (ad 0)), some (.int l1), some (.ref (ad 170)), none]) (by decide) (fun ad => ⟨by simp [Value.category], Nat.le_of_ble_eq_true rfl⟩) (fun ad => ⟨1, rfl⟩) ?_
  intro X hsl hX hct hnc htab hret
  have hlX : (sl X).stackTraces = false := by rw [hsl]; exact hl
  have hcs : ((0 : Nat), (0 : Nat)).1 ≤ (sR X).cells ∧ ((0 : Nat), (0 : Nat)).2 ≤ (sR X).slots := ⟨Nat.zero_le _, Nat.zero_le _⟩
  unfold fL_clear at h
  obtain ⟨⟨e, v, s⟩, hc, h⟩ := bn_some h
  show sW X 4 (0, 0) σ 0 [some (.ref (sad X 0)), some (.int l1), some (.ref (sad X 170)), none] []
  refine s_aload_n hX dL_clear_0 rfl ?_
  refine s_iconst 0 hX dL_clear_1 (by decide) ?_
  refine s_aload_n hX dL_clear_2 rfl ?_
  refine s_iload_n hX dL_clear_3 rfl ?_
  by_cases he : e = 0
  · subst he
    obtain ⟨rfl, rfl⟩ := rt2 ((if_pos rfl).symm.trans h)
    refine s_callVI _ hX (cX9_clear_ok (sl X) hc) SH_0 mv_RL_7_8 (fun _ => rfl) (by decide) (Nat.le_of_ble_eq_true rfl) hcs dL_clear_4 rfl ?_
    refine s_i2l hX dL_clear_7 ?_
    refine s_last hX in01 dL_clear_8 ?_
    refine s_goto (tgt := 15) hX dL_clear_9 (by decide) ?_
    refine s_iconst 0 hX dL_clear_15 (by decide) ?_
    exact hret _ _ _ (by decide) (by decide) dL_clear_16
  · replace h := (if_neg he).symm.trans h
    replace h : (if e = 1 then some (1, s) else lwH [] (1 + 1) (e, v, s)) = some (r, σ') := h
    by_cases c0 : e = 1
    · subst c0
      obtain ⟨rfl, rfl⟩ := rt2 ((if_pos rfl).symm.trans h)
      refine s_callCT _ [] (0, 9, 12, 13) [] hX (cX9_clear_th (sl X) hlX he hc) SH_0 rfl mt_RL_7 (fun _ => rfl) (by decide) (Nat.le_of_ble_eq_true rfl) hct dL_clear_4 rfl hnc htab rfl (by decide) (fun z hz => nomatch hz) rfl (by decide) w3_87 w3_94 (fun q => ?_)
      refine s_astore_n hX dL_clear_12 (by decide) ?_
      refine s_iconst 1 hX dL_clear_13 (by decide) ?_
      exact hret _ _ _ (Nat.le_refl _) (Nat.le_refl _) dL_clear_14
    · replace h := (if_neg c0).symm.trans h
      cases h
def fL_append (σ : Mm) (l1 : Int32) (l2 : Int32) (l3 : Int32) (l4 : Int32) (l5 : Int32) : Option (Int32 × Mm) := (fX9_append σ l1 l2 l3 l4 l5).bind (lwR [2, 1, 3])
set_option maxHeartbeats 4000000 in
theorem cL_append_ok (l : Launch) (hl : l.stackTraces = false) {σ : Mm} {l1 : Int32} {l2 : Int32} {l3 : Int32} {l4 : Int32} {l5 : Int32} {r : Int32} {σ' : Mm} (h : fL_append σ l1 l2 l3 l4 l5 = some (r, σ')) : cL l yL_append cL_append 8 [(0, 16, 19, 19), (0, 16, 23, 13), (0, 16, 27, 21)] 10 167 (fun ad => [.ref (ad 0), .int l1, .int l2, .int l3, .int l4, .int l5, .ref (ad 170)]) σ r σ' := by
  refine c_enterL (fun ad => [some (.ref (ad 0)), some (.int l1), some (.int l2), some (.int l3), some (.int l4), some (.int l5), some (.ref (ad 170)), none]) (by decide) (fun ad => ⟨by simp [Value.category], Nat.le_of_ble_eq_true rfl⟩) (fun ad => ⟨1, rfl⟩) ?_
  intro X hsl hX hct hnc htab hret
  have hlX : (sl X).stackTraces = false := by rw [hsl]; exact hl
  have hcs : ((0 : Nat), (0 : Nat)).1 ≤ (sR X).cells ∧ ((0 : Nat), (0 : Nat)).2 ≤ (sR X).slots := ⟨Nat.zero_le _, Nat.zero_le _⟩
  unfold fL_append at h
  obtain ⟨⟨e, v, s⟩, hc, h⟩ := bn_some h
  show sW X 8 (0, 0) σ 0 [some (.ref (sad X 0)), some (.int l1), some (.int l2), some (.int l3), some (.int l4), some (.int l5), some (.ref (sad X 170)), none] []
  refine s_aload hX dL_append_0 rfl ?_
  refine s_iconst 0 hX dL_append_2 (by decide) ?_
  refine s_aload_n hX dL_append_3 rfl ?_
  refine s_iload_n hX dL_append_4 rfl ?_
  refine s_iload_n hX dL_append_5 rfl ?_
  refine s_iload_n hX dL_append_6 rfl ?_
  refine s_iload hX dL_append_7 rfl ?_
  refine s_iload hX dL_append_9 rfl ?_
  by_cases he : e = 0
  · subst he
    obtain ⟨rfl, rfl⟩ := rt2 ((if_pos rfl).symm.trans h)
    refine s_callVI _ hX (cX9_append_ok (sl X) hc) SH_0 mv_RL_15_8 (fun _ => rfl) (by decide) (Nat.le_of_ble_eq_true rfl) hcs dL_append_11 rfl ?_
    refine s_i2l hX dL_append_14 ?_
    refine s_last hX in01 dL_append_15 ?_
    refine s_goto (tgt := 31) hX dL_append_16 (by decide) ?_
    refine s_iconst 0 hX dL_append_31 (by decide) ?_
    exact hret _ _ _ (by decide) (by decide) dL_append_32
  · replace h := (if_neg he).symm.trans h
    replace h : (if e = 2 then some (1, s) else lwH [1, 3] (1 + 1) (e, v, s)) = some (r, σ') := h
    by_cases c0 : e = 2
    · subst c0
      obtain ⟨rfl, rfl⟩ := rt2 ((if_pos rfl).symm.trans h)
      refine s_callCT _ [] (0, 16, 19, 19) [(0, 16, 23, 13), (0, 16, 27, 21)] hX (cX9_append_th (sl X) hlX he hc) SH_0 rfl mt_RL_15 (fun _ => rfl) (by decide) (Nat.le_of_ble_eq_true rfl) hct dL_append_11 rfl hnc htab rfl (by decide) (fun z hz => nomatch hz) rfl (by decide) w3_173 w3_208 (fun q => ?_)
      refine s_astore hX dL_append_19 (by decide) ?_
      refine s_iconst 1 hX dL_append_21 (by decide) ?_
      exact hret _ _ _ (Nat.le_refl _) (Nat.le_refl _) dL_append_22
    · replace h := (if_neg c0).symm.trans h
      replace h : (if e = 1 then some (1 + 1, s) else lwH [3] (1 + 1 + 1) (e, v, s)) = some (r, σ') := h
      by_cases c1 : e = 1
      · subst c1
        obtain ⟨rfl, rfl⟩ := rt2 ((if_pos rfl).symm.trans h)
        refine s_callCT _ [(0, 16, 19, 19)] (0, 16, 23, 13) [(0, 16, 27, 21)] hX (cX9_append_th (sl X) hlX he hc) SH_0 rfl mt_RL_15 (fun _ => rfl) (by decide) (Nat.le_of_ble_eq_true rfl) hct dL_append_11 rfl hnc htab rfl (by decide) (fun z hz => by
            simp only [List.mem_cons, List.not_mem_nil, or_false] at hz
            rcases hz with rfl
            · exact ⟨by decide, 2, w3_173, by decide, by decide, by decide⟩) rfl (by decide) w3_87 w3_94 (fun q => ?_)
        refine s_astore hX dL_append_23 (by decide) ?_
        refine s_iconst 2 hX dL_append_25 (by decide) ?_
        refine s_topi (1 + 1) (by decide) ?_
        exact hret _ _ _ (Nat.le_refl _) (Nat.le_refl _) dL_append_26
      · replace h := (if_neg c1).symm.trans h
        replace h : (if e = 3 then some (1 + 1 + 1, s) else lwH [] (1 + 1 + 1 + 1) (e, v, s)) = some (r, σ') := h
        by_cases c2 : e = 3
        · subst c2
          obtain ⟨rfl, rfl⟩ := rt2 ((if_pos rfl).symm.trans h)
          refine s_callCT _ [(0, 16, 19, 19), (0, 16, 23, 13)] (0, 16, 27, 21) [] hX (cX9_append_th (sl X) hlX he hc) SH_0 rfl mt_RL_15 (fun _ => rfl) (by decide) (Nat.le_of_ble_eq_true rfl) hct dL_append_11 rfl hnc htab rfl (by decide) (fun z hz => by
              simp only [List.mem_cons, List.not_mem_nil, or_false] at hz
              rcases hz with rfl | rfl
              · exact ⟨by decide, 2, w3_173, by decide, by decide, by decide⟩
              · exact ⟨by decide, 1, w3_87, by decide, by decide, by decide⟩) rfl (by decide) w3_197 w3_228 (fun q => ?_)
          refine s_astore hX dL_append_27 (by decide) ?_
          refine s_iconst 3 hX dL_append_29 (by decide) ?_
          refine s_topi (1 + 1 + 1) (by decide) ?_
          exact hret _ _ _ (Nat.le_refl _) (Nat.le_refl _) dL_append_30
        · replace h := (if_neg c2).symm.trans h
          cases h
def fL_removeLast (σ : Mm) (l1 : Int32) : Option (Int32 × Mm) := (fX9_removeLast σ l1).bind (lwR [2, 4])
set_option maxHeartbeats 4000000 in
theorem cL_removeLast_ok (l : Launch) (hl : l.stackTraces = false) {σ : Mm} {l1 : Int32} {r : Int32} {σ' : Mm} (h : fL_removeLast σ l1 = some (r, σ')) : cL l yL_removeLast cL_removeLast 4 [(0, 9, 12, 19), (0, 9, 15, 26)] 10 163 (fun ad => [.ref (ad 0), .int l1, .ref (ad 170)]) σ r σ' := by
  refine c_enterL (fun ad => [some (.ref (ad 0)), some (.int l1), some (.ref (ad 170)), none]) (by decide) (fun ad => ⟨by simp [Value.category], Nat.le_of_ble_eq_true rfl⟩) (fun ad => ⟨1, rfl⟩) ?_
  intro X hsl hX hct hnc htab hret
  have hlX : (sl X).stackTraces = false := by rw [hsl]; exact hl
  have hcs : ((0 : Nat), (0 : Nat)).1 ≤ (sR X).cells ∧ ((0 : Nat), (0 : Nat)).2 ≤ (sR X).slots := ⟨Nat.zero_le _, Nat.zero_le _⟩
  unfold fL_removeLast at h
  obtain ⟨⟨e, v, s⟩, hc, h⟩ := bn_some h
  show sW X 4 (0, 0) σ 0 [some (.ref (sad X 0)), some (.int l1), some (.ref (sad X 170)), none] []
  refine s_aload_n hX dL_removeLast_0 rfl ?_
  refine s_iconst 0 hX dL_removeLast_1 (by decide) ?_
  refine s_aload_n hX dL_removeLast_2 rfl ?_
  refine s_iload_n hX dL_removeLast_3 rfl ?_
  by_cases he : e = 0
  · subst he
    obtain ⟨rfl, rfl⟩ := rt2 ((if_pos rfl).symm.trans h)
    refine s_callVI _ hX (cX9_removeLast_ok (sl X) hc) SH_0 mv_RL_23_8 (fun _ => rfl) (by decide) (Nat.le_of_ble_eq_true rfl) hcs dL_removeLast_4 rfl ?_
    refine s_i2l hX dL_removeLast_7 ?_
    refine s_last hX in01 dL_removeLast_8 ?_
    refine s_goto (tgt := 18) hX dL_removeLast_9 (by decide) ?_
    refine s_iconst 0 hX dL_removeLast_18 (by decide) ?_
    exact hret _ _ _ (by decide) (by decide) dL_removeLast_19
  · replace h := (if_neg he).symm.trans h
    replace h : (if e = 2 then some (1, s) else lwH [4] (1 + 1) (e, v, s)) = some (r, σ') := h
    by_cases c0 : e = 2
    · subst c0
      obtain ⟨rfl, rfl⟩ := rt2 ((if_pos rfl).symm.trans h)
      refine s_callCT _ [] (0, 9, 12, 19) [(0, 9, 15, 26)] hX (cX9_removeLast_th (sl X) hlX he hc) SH_0 rfl mt_RL_23 (fun _ => rfl) (by decide) (Nat.le_of_ble_eq_true rfl) hct dL_removeLast_4 rfl hnc htab rfl (by decide) (fun z hz => nomatch hz) rfl (by decide) w3_173 w3_208 (fun q => ?_)
      refine s_astore_n hX dL_removeLast_12 (by decide) ?_
      refine s_iconst 1 hX dL_removeLast_13 (by decide) ?_
      exact hret _ _ _ (Nat.le_refl _) (Nat.le_refl _) dL_removeLast_14
    · replace h := (if_neg c0).symm.trans h
      replace h : (if e = 4 then some (1 + 1, s) else lwH [] (1 + 1 + 1) (e, v, s)) = some (r, σ') := h
      by_cases c1 : e = 4
      · subst c1
        obtain ⟨rfl, rfl⟩ := rt2 ((if_pos rfl).symm.trans h)
        refine s_callCT _ [(0, 9, 12, 19)] (0, 9, 15, 26) [] hX (cX9_removeLast_th (sl X) hlX he hc) SH_0 rfl mt_RL_23 (fun _ => rfl) (by decide) (Nat.le_of_ble_eq_true rfl) hct dL_removeLast_4 rfl hnc htab rfl (by decide) (fun z hz => by
            simp only [List.mem_cons, List.not_mem_nil, or_false] at hz
            rcases hz with rfl
            · exact ⟨by decide, 2, w3_173, by decide, by decide, by decide⟩) rfl (by decide) w4_9 w4_16 (fun q => ?_)
        refine s_astore_n hX dL_removeLast_15 (by decide) ?_
        refine s_iconst 2 hX dL_removeLast_16 (by decide) ?_
        refine s_topi (1 + 1) (by decide) ?_
        exact hret _ _ _ (Nat.le_refl _) (Nat.le_refl _) dL_removeLast_17
      · replace h := (if_neg c1).symm.trans h
        cases h
def fL_setEnd (σ : Mm) (l1 : Int32) (l2 : Int32) (l3 : Int32) (l4 : Int32) (l5 : Int32) : Option (Int32 × Mm) := (fX9_setEnd σ l1 l2 l3 l4 l5).bind (lwR [2, 1])
set_option maxHeartbeats 4000000 in
theorem cL_setEnd_ok (l : Launch) (hl : l.stackTraces = false) {σ : Mm} {l1 : Int32} {l2 : Int32} {l3 : Int32} {l4 : Int32} {l5 : Int32} {r : Int32} {σ' : Mm} (h : fL_setEnd σ l1 l2 l3 l4 l5 = some (r, σ')) : cL l yL_setEnd cL_setEnd 8 [(0, 16, 19, 19), (0, 16, 23, 13)] 10 168 (fun ad => [.ref (ad 0), .int l1, .int l2, .int l3, .int l4, .int l5, .ref (ad 170)]) σ r σ' := by
  refine c_enterL (fun ad => [some (.ref (ad 0)), some (.int l1), some (.int l2), some (.int l3), some (.int l4), some (.int l5), some (.ref (ad 170)), none]) (by decide) (fun ad => ⟨by simp [Value.category], Nat.le_of_ble_eq_true rfl⟩) (fun ad => ⟨1, rfl⟩) ?_
  intro X hsl hX hct hnc htab hret
  have hlX : (sl X).stackTraces = false := by rw [hsl]; exact hl
  have hcs : ((0 : Nat), (0 : Nat)).1 ≤ (sR X).cells ∧ ((0 : Nat), (0 : Nat)).2 ≤ (sR X).slots := ⟨Nat.zero_le _, Nat.zero_le _⟩
  unfold fL_setEnd at h
  obtain ⟨⟨e, v, s⟩, hc, h⟩ := bn_some h
  show sW X 8 (0, 0) σ 0 [some (.ref (sad X 0)), some (.int l1), some (.int l2), some (.int l3), some (.int l4), some (.int l5), some (.ref (sad X 170)), none] []
  refine s_aload hX dL_setEnd_0 rfl ?_
  refine s_iconst 0 hX dL_setEnd_2 (by decide) ?_
  refine s_aload_n hX dL_setEnd_3 rfl ?_
  refine s_iload_n hX dL_setEnd_4 rfl ?_
  refine s_iload_n hX dL_setEnd_5 rfl ?_
  refine s_iload_n hX dL_setEnd_6 rfl ?_
  refine s_iload hX dL_setEnd_7 rfl ?_
  refine s_iload hX dL_setEnd_9 rfl ?_
  by_cases he : e = 0
  · subst he
    obtain ⟨rfl, rfl⟩ := rt2 ((if_pos rfl).symm.trans h)
    refine s_callVI _ hX (cX9_setEnd_ok (sl X) hc) SH_0 mv_RL_28_8 (fun _ => rfl) (by decide) (Nat.le_of_ble_eq_true rfl) hcs dL_setEnd_11 rfl ?_
    refine s_i2l hX dL_setEnd_14 ?_
    refine s_last hX in01 dL_setEnd_15 ?_
    refine s_goto (tgt := 27) hX dL_setEnd_16 (by decide) ?_
    refine s_iconst 0 hX dL_setEnd_27 (by decide) ?_
    exact hret _ _ _ (by decide) (by decide) dL_setEnd_28
  · replace h := (if_neg he).symm.trans h
    replace h : (if e = 2 then some (1, s) else lwH [1] (1 + 1) (e, v, s)) = some (r, σ') := h
    by_cases c0 : e = 2
    · subst c0
      obtain ⟨rfl, rfl⟩ := rt2 ((if_pos rfl).symm.trans h)
      refine s_callCT _ [] (0, 16, 19, 19) [(0, 16, 23, 13)] hX (cX9_setEnd_th (sl X) hlX he hc) SH_0 rfl mt_RL_28 (fun _ => rfl) (by decide) (Nat.le_of_ble_eq_true rfl) hct dL_setEnd_11 rfl hnc htab rfl (by decide) (fun z hz => nomatch hz) rfl (by decide) w3_173 w3_208 (fun q => ?_)
      refine s_astore hX dL_setEnd_19 (by decide) ?_
      refine s_iconst 1 hX dL_setEnd_21 (by decide) ?_
      exact hret _ _ _ (Nat.le_refl _) (Nat.le_refl _) dL_setEnd_22
    · replace h := (if_neg c0).symm.trans h
      replace h : (if e = 1 then some (1 + 1, s) else lwH [] (1 + 1 + 1) (e, v, s)) = some (r, σ') := h
      by_cases c1 : e = 1
      · subst c1
        obtain ⟨rfl, rfl⟩ := rt2 ((if_pos rfl).symm.trans h)
        refine s_callCT _ [(0, 16, 19, 19)] (0, 16, 23, 13) [] hX (cX9_setEnd_th (sl X) hlX he hc) SH_0 rfl mt_RL_28 (fun _ => rfl) (by decide) (Nat.le_of_ble_eq_true rfl) hct dL_setEnd_11 rfl hnc htab rfl (by decide) (fun z hz => by
            simp only [List.mem_cons, List.not_mem_nil, or_false] at hz
            rcases hz with rfl
            · exact ⟨by decide, 2, w3_173, by decide, by decide, by decide⟩) rfl (by decide) w3_87 w3_94 (fun q => ?_)
        refine s_astore hX dL_setEnd_23 (by decide) ?_
        refine s_iconst 2 hX dL_setEnd_25 (by decide) ?_
        refine s_topi (1 + 1) (by decide) ?_
        exact hret _ _ _ (Nat.le_refl _) (Nat.le_refl _) dL_setEnd_26
      · replace h := (if_neg c1).symm.trans h
        cases h
def fL_setFrequency (σ : Mm) (l1 : Int32) (l2 : Int32) : Option (Int32 × Mm) := (fX9_setFrequency σ l1 l2).bind (lwR [2, 1])
set_option maxHeartbeats 4000000 in
theorem cL_setFrequency_ok (l : Launch) (hl : l.stackTraces = false) {σ : Mm} {l1 : Int32} {l2 : Int32} {r : Int32} {σ' : Mm} (h : fL_setFrequency σ l1 l2 = some (r, σ')) : cL l yL_setFrequency cL_setFrequency 5 [(0, 10, 13, 19), (0, 10, 17, 13)] 10 165 (fun ad => [.ref (ad 0), .int l1, .int l2, .ref (ad 170)]) σ r σ' := by
  refine c_enterL (fun ad => [some (.ref (ad 0)), some (.int l1), some (.int l2), some (.ref (ad 170)), none]) (by decide) (fun ad => ⟨by simp [Value.category], Nat.le_of_ble_eq_true rfl⟩) (fun ad => ⟨1, rfl⟩) ?_
  intro X hsl hX hct hnc htab hret
  have hlX : (sl X).stackTraces = false := by rw [hsl]; exact hl
  have hcs : ((0 : Nat), (0 : Nat)).1 ≤ (sR X).cells ∧ ((0 : Nat), (0 : Nat)).2 ≤ (sR X).slots := ⟨Nat.zero_le _, Nat.zero_le _⟩
  unfold fL_setFrequency at h
  obtain ⟨⟨e, v, s⟩, hc, h⟩ := bn_some h
  show sW X 5 (0, 0) σ 0 [some (.ref (sad X 0)), some (.int l1), some (.int l2), some (.ref (sad X 170)), none] []
  refine s_aload_n hX dL_setFrequency_0 rfl ?_
  refine s_iconst 0 hX dL_setFrequency_1 (by decide) ?_
  refine s_aload_n hX dL_setFrequency_2 rfl ?_
  refine s_iload_n hX dL_setFrequency_3 rfl ?_
  refine s_iload_n hX dL_setFrequency_4 rfl ?_
  by_cases he : e = 0
  · subst he
    obtain ⟨rfl, rfl⟩ := rt2 ((if_pos rfl).symm.trans h)
    refine s_callVI _ hX (cX9_setFrequency_ok (sl X) hc) SH_0 mv_RL_31_8 (fun _ => rfl) (by decide) (Nat.le_of_ble_eq_true rfl) hcs dL_setFrequency_5 rfl ?_
    refine s_i2l hX dL_setFrequency_8 ?_
    refine s_last hX in01 dL_setFrequency_9 ?_
    refine s_goto (tgt := 21) hX dL_setFrequency_10 (by decide) ?_
    refine s_iconst 0 hX dL_setFrequency_21 (by decide) ?_
    exact hret _ _ _ (by decide) (by decide) dL_setFrequency_22
  · replace h := (if_neg he).symm.trans h
    replace h : (if e = 2 then some (1, s) else lwH [1] (1 + 1) (e, v, s)) = some (r, σ') := h
    by_cases c0 : e = 2
    · subst c0
      obtain ⟨rfl, rfl⟩ := rt2 ((if_pos rfl).symm.trans h)
      refine s_callCT _ [] (0, 10, 13, 19) [(0, 10, 17, 13)] hX (cX9_setFrequency_th (sl X) hlX he hc) SH_0 rfl mt_RL_31 (fun _ => rfl) (by decide) (Nat.le_of_ble_eq_true rfl) hct dL_setFrequency_5 rfl hnc htab rfl (by decide) (fun z hz => nomatch hz) rfl (by decide) w3_173 w3_208 (fun q => ?_)
      refine s_astore hX dL_setFrequency_13 (by decide) ?_
      refine s_iconst 1 hX dL_setFrequency_15 (by decide) ?_
      exact hret _ _ _ (Nat.le_refl _) (Nat.le_refl _) dL_setFrequency_16
    · replace h := (if_neg c0).symm.trans h
      replace h : (if e = 1 then some (1 + 1, s) else lwH [] (1 + 1 + 1) (e, v, s)) = some (r, σ') := h
      by_cases c1 : e = 1
      · subst c1
        obtain ⟨rfl, rfl⟩ := rt2 ((if_pos rfl).symm.trans h)
        refine s_callCT _ [(0, 10, 13, 19)] (0, 10, 17, 13) [] hX (cX9_setFrequency_th (sl X) hlX he hc) SH_0 rfl mt_RL_31 (fun _ => rfl) (by decide) (Nat.le_of_ble_eq_true rfl) hct dL_setFrequency_5 rfl hnc htab rfl (by decide) (fun z hz => by
            simp only [List.mem_cons, List.not_mem_nil, or_false] at hz
            rcases hz with rfl
            · exact ⟨by decide, 2, w3_173, by decide, by decide, by decide⟩) rfl (by decide) w3_87 w3_94 (fun q => ?_)
        refine s_astore hX dL_setFrequency_17 (by decide) ?_
        refine s_iconst 2 hX dL_setFrequency_19 (by decide) ?_
        refine s_topi (1 + 1) (by decide) ?_
        exact hret _ _ _ (Nat.le_refl _) (Nat.le_refl _) dL_setFrequency_20
      · replace h := (if_neg c1).symm.trans h
        cases h
def fL_setInitial (σ : Mm) (l1 : Int32) (l2 : Int32) : Option (Int32 × Mm) := (fX9_setInitial σ l1 l2).bind (lwR [1])
set_option maxHeartbeats 4000000 in
theorem cL_setInitial_ok (l : Launch) (hl : l.stackTraces = false) {σ : Mm} {l1 : Int32} {l2 : Int32} {r : Int32} {σ' : Mm} (h : fL_setInitial σ l1 l2 = some (r, σ')) : cL l yL_setInitial cL_setInitial 5 [(0, 10, 13, 13)] 10 164 (fun ad => [.ref (ad 0), .int l1, .int l2, .ref (ad 170)]) σ r σ' := by
  refine c_enterL (fun ad => [some (.ref (ad 0)), some (.int l1), some (.int l2), some (.ref (ad 170)), none]) (by decide) (fun ad => ⟨by simp [Value.category], Nat.le_of_ble_eq_true rfl⟩) (fun ad => ⟨1, rfl⟩) ?_
  intro X hsl hX hct hnc htab hret
  have hlX : (sl X).stackTraces = false := by rw [hsl]; exact hl
  have hcs : ((0 : Nat), (0 : Nat)).1 ≤ (sR X).cells ∧ ((0 : Nat), (0 : Nat)).2 ≤ (sR X).slots := ⟨Nat.zero_le _, Nat.zero_le _⟩
  unfold fL_setInitial at h
  obtain ⟨⟨e, v, s⟩, hc, h⟩ := bn_some h
  show sW X 5 (0, 0) σ 0 [some (.ref (sad X 0)), some (.int l1), some (.int l2), some (.ref (sad X 170)), none] []
  refine s_aload_n hX dL_setInitial_0 rfl ?_
  refine s_iconst 0 hX dL_setInitial_1 (by decide) ?_
  refine s_aload_n hX dL_setInitial_2 rfl ?_
  refine s_iload_n hX dL_setInitial_3 rfl ?_
  refine s_iload_n hX dL_setInitial_4 rfl ?_
  by_cases he : e = 0
  · subst he
    obtain ⟨rfl, rfl⟩ := rt2 ((if_pos rfl).symm.trans h)
    refine s_callVI _ hX (cX9_setInitial_ok (sl X) hc) SH_0 mv_RL_35_8 (fun _ => rfl) (by decide) (Nat.le_of_ble_eq_true rfl) hcs dL_setInitial_5 rfl ?_
    refine s_i2l hX dL_setInitial_8 ?_
    refine s_last hX in01 dL_setInitial_9 ?_
    refine s_goto (tgt := 17) hX dL_setInitial_10 (by decide) ?_
    refine s_iconst 0 hX dL_setInitial_17 (by decide) ?_
    exact hret _ _ _ (by decide) (by decide) dL_setInitial_18
  · replace h := (if_neg he).symm.trans h
    replace h : (if e = 1 then some (1, s) else lwH [] (1 + 1) (e, v, s)) = some (r, σ') := h
    by_cases c0 : e = 1
    · subst c0
      obtain ⟨rfl, rfl⟩ := rt2 ((if_pos rfl).symm.trans h)
      refine s_callCT _ [] (0, 10, 13, 13) [] hX (cX9_setInitial_th (sl X) hlX he hc) SH_0 rfl mt_RL_35 (fun _ => rfl) (by decide) (Nat.le_of_ble_eq_true rfl) hct dL_setInitial_5 rfl hnc htab rfl (by decide) (fun z hz => nomatch hz) rfl (by decide) w3_87 w3_94 (fun q => ?_)
      refine s_astore hX dL_setInitial_13 (by decide) ?_
      refine s_iconst 1 hX dL_setInitial_15 (by decide) ?_
      exact hret _ _ _ (Nat.le_refl _) (Nat.le_refl _) dL_setInitial_16
    · replace h := (if_neg c0).symm.trans h
      cases h
def fL_instruction (σ : Mm) (l1 : Int32) (l2 : Int32) (l3 : Int32) : Option (Int32 × Mm) := (fX9_instruction σ l1 l2 l3).bind (lwR [2, 1])
set_option maxHeartbeats 4000000 in
theorem cL_instruction_ok (l : Launch) (hl : l.stackTraces = false) {σ : Mm} {l1 : Int32} {l2 : Int32} {l3 : Int32} {r : Int32} {σ' : Mm} (h : fL_instruction σ l1 l2 l3 = some (r, σ')) : cL l yL_instruction cL_instruction 6 [(0, 12, 15, 19), (0, 12, 19, 13)] 10 165 (fun ad => [.ref (ad 0), .int l1, .int l2, .int l3, .ref (ad 170)]) σ r σ' := by
  refine c_enterL (fun ad => [some (.ref (ad 0)), some (.int l1), some (.int l2), some (.int l3), some (.ref (ad 170)), none]) (by decide) (fun ad => ⟨by simp [Value.category], Nat.le_of_ble_eq_true rfl⟩) (fun ad => ⟨1, rfl⟩) ?_
  intro X hsl hX hct hnc htab hret
  have hlX : (sl X).stackTraces = false := by rw [hsl]; exact hl
  have hcs : ((0 : Nat), (0 : Nat)).1 ≤ (sR X).cells ∧ ((0 : Nat), (0 : Nat)).2 ≤ (sR X).slots := ⟨Nat.zero_le _, Nat.zero_le _⟩
  unfold fL_instruction at h
  obtain ⟨⟨e, v, s⟩, hc, h⟩ := bn_some h
  show sW X 6 (0, 0) σ 0 [some (.ref (sad X 0)), some (.int l1), some (.int l2), some (.int l3), some (.ref (sad X 170)), none] []
  refine s_aload hX dL_instruction_0 rfl ?_
  refine s_iconst 0 hX dL_instruction_2 (by decide) ?_
  refine s_aload_n hX dL_instruction_3 rfl ?_
  refine s_iload_n hX dL_instruction_4 rfl ?_
  refine s_iload_n hX dL_instruction_5 rfl ?_
  refine s_iload_n hX dL_instruction_6 rfl ?_
  by_cases he : e = 0
  · subst he
    obtain ⟨rfl, rfl⟩ := rt2 ((if_pos rfl).symm.trans h)
    refine s_callVI _ hX (cX9_instruction_ok (sl X) hc) SH_0 mv_RL_38_8 (fun _ => rfl) (by decide) (Nat.le_of_ble_eq_true rfl) hcs dL_instruction_7 rfl ?_
    refine s_i2l hX dL_instruction_10 ?_
    refine s_last hX in01 dL_instruction_11 ?_
    refine s_goto (tgt := 23) hX dL_instruction_12 (by decide) ?_
    refine s_iconst 0 hX dL_instruction_23 (by decide) ?_
    exact hret _ _ _ (by decide) (by decide) dL_instruction_24
  · replace h := (if_neg he).symm.trans h
    replace h : (if e = 2 then some (1, s) else lwH [1] (1 + 1) (e, v, s)) = some (r, σ') := h
    by_cases c0 : e = 2
    · subst c0
      obtain ⟨rfl, rfl⟩ := rt2 ((if_pos rfl).symm.trans h)
      refine s_callCT _ [] (0, 12, 15, 19) [(0, 12, 19, 13)] hX (cX9_instruction_th (sl X) hlX he hc) SH_0 rfl mt_RL_38 (fun _ => rfl) (by decide) (Nat.le_of_ble_eq_true rfl) hct dL_instruction_7 rfl hnc htab rfl (by decide) (fun z hz => nomatch hz) rfl (by decide) w3_173 w3_208 (fun q => ?_)
      refine s_astore hX dL_instruction_15 (by decide) ?_
      refine s_iconst 1 hX dL_instruction_17 (by decide) ?_
      exact hret _ _ _ (Nat.le_refl _) (Nat.le_refl _) dL_instruction_18
    · replace h := (if_neg c0).symm.trans h
      replace h : (if e = 1 then some (1 + 1, s) else lwH [] (1 + 1 + 1) (e, v, s)) = some (r, σ') := h
      by_cases c1 : e = 1
      · subst c1
        obtain ⟨rfl, rfl⟩ := rt2 ((if_pos rfl).symm.trans h)
        refine s_callCT _ [(0, 12, 15, 19)] (0, 12, 19, 13) [] hX (cX9_instruction_th (sl X) hlX he hc) SH_0 rfl mt_RL_38 (fun _ => rfl) (by decide) (Nat.le_of_ble_eq_true rfl) hct dL_instruction_7 rfl hnc htab rfl (by decide) (fun z hz => by
            simp only [List.mem_cons, List.not_mem_nil, or_false] at hz
            rcases hz with rfl
            · exact ⟨by decide, 2, w3_173, by decide, by decide, by decide⟩) rfl (by decide) w3_87 w3_94 (fun q => ?_)
        refine s_astore hX dL_instruction_19 (by decide) ?_
        refine s_iconst 2 hX dL_instruction_21 (by decide) ?_
        refine s_topi (1 + 1) (by decide) ?_
        exact hret _ _ _ (Nat.le_refl _) (Nat.le_refl _) dL_instruction_22
      · replace h := (if_neg c1).symm.trans h
        cases h
def fL_block (σ : Mm) (l1 : Int32) (l2 : Int32) : Option (Int32 × Mm) := (fX9_block σ l1 l2).bind (lwR [2, 1])
set_option maxHeartbeats 4000000 in
theorem cL_block_ok (l : Launch) (hl : l.stackTraces = false) {σ : Mm} {l1 : Int32} {l2 : Int32} {r : Int32} {σ' : Mm} (h : fL_block σ l1 l2 = some (r, σ')) : cL l yL_block cL_block 5 [(0, 10, 13, 19), (0, 10, 17, 13)] 10 164 (fun ad => [.ref (ad 0), .int l1, .int l2, .ref (ad 170)]) σ r σ' := by
  refine c_enterL (fun ad => [some (.ref (ad 0)), some (.int l1), some (.int l2), some (.ref (ad 170)), none]) (by decide) (fun ad => ⟨by simp [Value.category], Nat.le_of_ble_eq_true rfl⟩) (fun ad => ⟨1, rfl⟩) ?_
  intro X hsl hX hct hnc htab hret
  have hlX : (sl X).stackTraces = false := by rw [hsl]; exact hl
  have hcs : ((0 : Nat), (0 : Nat)).1 ≤ (sR X).cells ∧ ((0 : Nat), (0 : Nat)).2 ≤ (sR X).slots := ⟨Nat.zero_le _, Nat.zero_le _⟩
  unfold fL_block at h
  obtain ⟨⟨e, v, s⟩, hc, h⟩ := bn_some h
  show sW X 5 (0, 0) σ 0 [some (.ref (sad X 0)), some (.int l1), some (.int l2), some (.ref (sad X 170)), none] []
  refine s_aload_n hX dL_block_0 rfl ?_
  refine s_iconst 0 hX dL_block_1 (by decide) ?_
  refine s_aload_n hX dL_block_2 rfl ?_
  refine s_iload_n hX dL_block_3 rfl ?_
  refine s_iload_n hX dL_block_4 rfl ?_
  by_cases he : e = 0
  · subst he
    obtain ⟨rfl, rfl⟩ := rt2 ((if_pos rfl).symm.trans h)
    refine s_callVI _ hX (cX9_block_ok (sl X) hc) SH_0 mv_RL_42_8 (fun _ => rfl) (by decide) (Nat.le_of_ble_eq_true rfl) hcs dL_block_5 rfl ?_
    refine s_i2l hX dL_block_8 ?_
    refine s_last hX in01 dL_block_9 ?_
    refine s_goto (tgt := 21) hX dL_block_10 (by decide) ?_
    refine s_iconst 0 hX dL_block_21 (by decide) ?_
    exact hret _ _ _ (by decide) (by decide) dL_block_22
  · replace h := (if_neg he).symm.trans h
    replace h : (if e = 2 then some (1, s) else lwH [1] (1 + 1) (e, v, s)) = some (r, σ') := h
    by_cases c0 : e = 2
    · subst c0
      obtain ⟨rfl, rfl⟩ := rt2 ((if_pos rfl).symm.trans h)
      refine s_callCT _ [] (0, 10, 13, 19) [(0, 10, 17, 13)] hX (cX9_block_th (sl X) hlX he hc) SH_0 rfl mt_RL_42 (fun _ => rfl) (by decide) (Nat.le_of_ble_eq_true rfl) hct dL_block_5 rfl hnc htab rfl (by decide) (fun z hz => nomatch hz) rfl (by decide) w3_173 w3_208 (fun q => ?_)
      refine s_astore hX dL_block_13 (by decide) ?_
      refine s_iconst 1 hX dL_block_15 (by decide) ?_
      exact hret _ _ _ (Nat.le_refl _) (Nat.le_refl _) dL_block_16
    · replace h := (if_neg c0).symm.trans h
      replace h : (if e = 1 then some (1 + 1, s) else lwH [] (1 + 1 + 1) (e, v, s)) = some (r, σ') := h
      by_cases c1 : e = 1
      · subst c1
        obtain ⟨rfl, rfl⟩ := rt2 ((if_pos rfl).symm.trans h)
        refine s_callCT _ [(0, 10, 13, 19)] (0, 10, 17, 13) [] hX (cX9_block_th (sl X) hlX he hc) SH_0 rfl mt_RL_42 (fun _ => rfl) (by decide) (Nat.le_of_ble_eq_true rfl) hct dL_block_5 rfl hnc htab rfl (by decide) (fun z hz => by
            simp only [List.mem_cons, List.not_mem_nil, or_false] at hz
            rcases hz with rfl
            · exact ⟨by decide, 2, w3_173, by decide, by decide, by decide⟩) rfl (by decide) w3_87 w3_94 (fun q => ?_)
        refine s_astore hX dL_block_17 (by decide) ?_
        refine s_iconst 2 hX dL_block_19 (by decide) ?_
        refine s_topi (1 + 1) (by decide) ?_
        exact hret _ _ _ (Nat.le_refl _) (Nat.le_refl _) dL_block_20
      · replace h := (if_neg c1).symm.trans h
        cases h
def fL_live (σ : Mm) (l1 : Int32) (l2 : Int32) : Option (Int32 × Mm) := (fX9_live σ l1 l2).bind (lwR [2])
set_option maxHeartbeats 4000000 in
theorem cL_live_ok (l : Launch) (hl : l.stackTraces = false) {σ : Mm} {l1 : Int32} {l2 : Int32} {r : Int32} {σ' : Mm} (h : fL_live σ l1 l2 = some (r, σ')) : cL l yL_live cL_live 5 [(0, 10, 13, 19)] 10 163 (fun ad => [.ref (ad 0), .int l1, .int l2, .ref (ad 170)]) σ r σ' := by
  refine c_enterL (fun ad => [some (.ref (ad 0)), some (.int l1), some (.int l2), some (.ref (ad 170)), none]) (by decide) (fun ad => ⟨by simp [Value.category], Nat.le_of_ble_eq_true rfl⟩) (fun ad => ⟨1, rfl⟩) ?_
  intro X hsl hX hct hnc htab hret
  have hlX : (sl X).stackTraces = false := by rw [hsl]; exact hl
  have hcs : ((0 : Nat), (0 : Nat)).1 ≤ (sR X).cells ∧ ((0 : Nat), (0 : Nat)).2 ≤ (sR X).slots := ⟨Nat.zero_le _, Nat.zero_le _⟩
  unfold fL_live at h
  obtain ⟨⟨e, v, s⟩, hc, h⟩ := bn_some h
  show sW X 5 (0, 0) σ 0 [some (.ref (sad X 0)), some (.int l1), some (.int l2), some (.ref (sad X 170)), none] []
  refine s_aload_n hX dL_live_0 rfl ?_
  refine s_iconst 0 hX dL_live_1 (by decide) ?_
  refine s_aload_n hX dL_live_2 rfl ?_
  refine s_iload_n hX dL_live_3 rfl ?_
  refine s_iload_n hX dL_live_4 rfl ?_
  by_cases he : e = 0
  · subst he
    obtain ⟨rfl, rfl⟩ := rt2 ((if_pos rfl).symm.trans h)
    refine s_callVI _ hX (cX9_live_ok (sl X) hc) SH_0 mv_RL_45_8 (fun _ => rfl) (by decide) (Nat.le_of_ble_eq_true rfl) hcs dL_live_5 rfl ?_
    refine s_i2l hX dL_live_8 ?_
    refine s_last hX in01 dL_live_9 ?_
    refine s_goto (tgt := 17) hX dL_live_10 (by decide) ?_
    refine s_iconst 0 hX dL_live_17 (by decide) ?_
    exact hret _ _ _ (by decide) (by decide) dL_live_18
  · replace h := (if_neg he).symm.trans h
    replace h : (if e = 2 then some (1, s) else lwH [] (1 + 1) (e, v, s)) = some (r, σ') := h
    by_cases c0 : e = 2
    · subst c0
      obtain ⟨rfl, rfl⟩ := rt2 ((if_pos rfl).symm.trans h)
      refine s_callCT _ [] (0, 10, 13, 19) [] hX (cX9_live_th (sl X) hlX he hc) SH_0 rfl mt_RL_45 (fun _ => rfl) (by decide) (Nat.le_of_ble_eq_true rfl) hct dL_live_5 rfl hnc htab rfl (by decide) (fun z hz => nomatch hz) rfl (by decide) w3_173 w3_208 (fun q => ?_)
      refine s_astore hX dL_live_13 (by decide) ?_
      refine s_iconst 1 hX dL_live_15 (by decide) ?_
      exact hret _ _ _ (Nat.le_refl _) (Nat.le_refl _) dL_live_16
    · replace h := (if_neg c0).symm.trans h
      cases h
def fL_conflicts (σ : Mm) (l1 : Int32) : Option (Int32 × Mm) := (fX9_conflicts σ l1).bind (lwR [1])
set_option maxHeartbeats 4000000 in
theorem cL_conflicts_ok (l : Launch) (hl : l.stackTraces = false) {σ : Mm} {l1 : Int32} {r : Int32} {σ' : Mm} (h : fL_conflicts σ l1 = some (r, σ')) : cL l yL_conflicts cL_conflicts 4 [(0, 9, 12, 13)] 10 162 (fun ad => [.ref (ad 0), .int l1, .ref (ad 170)]) σ r σ' := by
  refine c_enterL (fun ad => [some (.ref (ad 0)), some (.int l1), some (.ref (ad 170)), none]) (by decide) (fun ad => ⟨by simp [Value.category], Nat.le_of_ble_eq_true rfl⟩) (fun ad => ⟨1, rfl⟩) ?_
  intro X hsl hX hct hnc htab hret
  have hlX : (sl X).stackTraces = false := by rw [hsl]; exact hl
  have hcs : ((0 : Nat), (0 : Nat)).1 ≤ (sR X).cells ∧ ((0 : Nat), (0 : Nat)).2 ≤ (sR X).slots := ⟨Nat.zero_le _, Nat.zero_le _⟩
  unfold fL_conflicts at h
  obtain ⟨⟨e, v, s⟩, hc, h⟩ := bn_some h
  show sW X 4 (0, 0) σ 0 [some (.ref (sad X 0)), some (.int l1), some (.ref (sad X 170)), none] []
  refine s_aload_n hX dL_conflicts_0 rfl ?_
  refine s_iconst 0 hX dL_conflicts_1 (by decide) ?_
  refine s_aload_n hX dL_conflicts_2 rfl ?_
  refine s_iload_n hX dL_conflicts_3 rfl ?_
  by_cases he : e = 0
  · subst he
    obtain ⟨rfl, rfl⟩ := rt2 ((if_pos rfl).symm.trans h)
    refine s_callVI _ hX (cX9_conflicts_ok (sl X) hc) SH_0 mv_RL_48_8 (fun _ => rfl) (by decide) (Nat.le_of_ble_eq_true rfl) hcs dL_conflicts_4 rfl ?_
    refine s_i2l hX dL_conflicts_7 ?_
    refine s_last hX in01 dL_conflicts_8 ?_
    refine s_goto (tgt := 15) hX dL_conflicts_9 (by decide) ?_
    refine s_iconst 0 hX dL_conflicts_15 (by decide) ?_
    exact hret _ _ _ (by decide) (by decide) dL_conflicts_16
  · replace h := (if_neg he).symm.trans h
    replace h : (if e = 1 then some (1, s) else lwH [] (1 + 1) (e, v, s)) = some (r, σ') := h
    by_cases c0 : e = 1
    · subst c0
      obtain ⟨rfl, rfl⟩ := rt2 ((if_pos rfl).symm.trans h)
      refine s_callCT _ [] (0, 9, 12, 13) [] hX (cX9_conflicts_th (sl X) hlX he hc) SH_0 rfl mt_RL_48 (fun _ => rfl) (by decide) (Nat.le_of_ble_eq_true rfl) hct dL_conflicts_4 rfl hnc htab rfl (by decide) (fun z hz => nomatch hz) rfl (by decide) w3_87 w3_94 (fun q => ?_)
      refine s_astore_n hX dL_conflicts_12 (by decide) ?_
      refine s_iconst 1 hX dL_conflicts_13 (by decide) ?_
      exact hret _ _ _ (Nat.le_refl _) (Nat.le_refl _) dL_conflicts_14
    · replace h := (if_neg c0).symm.trans h
      cases h
def fL_loop (σ : Mm) (l1 : Int32) (l2 : Int32) : Option (Int32 × Mm) := (fX9_loop σ l1 l2).bind (lwR [2, 1])
set_option maxHeartbeats 4000000 in
theorem cL_loop_ok (l : Launch) (hl : l.stackTraces = false) {σ : Mm} {l1 : Int32} {l2 : Int32} {r : Int32} {σ' : Mm} (h : fL_loop σ l1 l2 = some (r, σ')) : cL l yL_loop cL_loop 5 [(0, 10, 13, 19), (0, 10, 17, 13)] 10 163 (fun ad => [.ref (ad 0), .int l1, .int l2, .ref (ad 170)]) σ r σ' := by
  refine c_enterL (fun ad => [some (.ref (ad 0)), some (.int l1), some (.int l2), some (.ref (ad 170)), none]) (by decide) (fun ad => ⟨by simp [Value.category], Nat.le_of_ble_eq_true rfl⟩) (fun ad => ⟨1, rfl⟩) ?_
  intro X hsl hX hct hnc htab hret
  have hlX : (sl X).stackTraces = false := by rw [hsl]; exact hl
  have hcs : ((0 : Nat), (0 : Nat)).1 ≤ (sR X).cells ∧ ((0 : Nat), (0 : Nat)).2 ≤ (sR X).slots := ⟨Nat.zero_le _, Nat.zero_le _⟩
  unfold fL_loop at h
  obtain ⟨⟨e, v, s⟩, hc, h⟩ := bn_some h
  show sW X 5 (0, 0) σ 0 [some (.ref (sad X 0)), some (.int l1), some (.int l2), some (.ref (sad X 170)), none] []
  refine s_aload_n hX dL_loop_0 rfl ?_
  refine s_iconst 0 hX dL_loop_1 (by decide) ?_
  refine s_aload_n hX dL_loop_2 rfl ?_
  refine s_iload_n hX dL_loop_3 rfl ?_
  refine s_iload_n hX dL_loop_4 rfl ?_
  by_cases he : e = 0
  · subst he
    obtain ⟨rfl, rfl⟩ := rt2 ((if_pos rfl).symm.trans h)
    refine s_callVI _ hX (cX9_loop_ok (sl X) hc) SH_0 mv_RL_51_8 (fun _ => rfl) (by decide) (Nat.le_of_ble_eq_true rfl) hcs dL_loop_5 rfl ?_
    refine s_i2l hX dL_loop_8 ?_
    refine s_last hX in01 dL_loop_9 ?_
    refine s_goto (tgt := 21) hX dL_loop_10 (by decide) ?_
    refine s_iconst 0 hX dL_loop_21 (by decide) ?_
    exact hret _ _ _ (by decide) (by decide) dL_loop_22
  · replace h := (if_neg he).symm.trans h
    replace h : (if e = 2 then some (1, s) else lwH [1] (1 + 1) (e, v, s)) = some (r, σ') := h
    by_cases c0 : e = 2
    · subst c0
      obtain ⟨rfl, rfl⟩ := rt2 ((if_pos rfl).symm.trans h)
      refine s_callCT _ [] (0, 10, 13, 19) [(0, 10, 17, 13)] hX (cX9_loop_th (sl X) hlX he hc) SH_0 rfl mt_RL_51 (fun _ => rfl) (by decide) (Nat.le_of_ble_eq_true rfl) hct dL_loop_5 rfl hnc htab rfl (by decide) (fun z hz => nomatch hz) rfl (by decide) w3_173 w3_208 (fun q => ?_)
      refine s_astore hX dL_loop_13 (by decide) ?_
      refine s_iconst 1 hX dL_loop_15 (by decide) ?_
      exact hret _ _ _ (Nat.le_refl _) (Nat.le_refl _) dL_loop_16
    · replace h := (if_neg c0).symm.trans h
      replace h : (if e = 1 then some (1 + 1, s) else lwH [] (1 + 1 + 1) (e, v, s)) = some (r, σ') := h
      by_cases c1 : e = 1
      · subst c1
        obtain ⟨rfl, rfl⟩ := rt2 ((if_pos rfl).symm.trans h)
        refine s_callCT _ [(0, 10, 13, 19)] (0, 10, 17, 13) [] hX (cX9_loop_th (sl X) hlX he hc) SH_0 rfl mt_RL_51 (fun _ => rfl) (by decide) (Nat.le_of_ble_eq_true rfl) hct dL_loop_5 rfl hnc htab rfl (by decide) (fun z hz => by
            simp only [List.mem_cons, List.not_mem_nil, or_false] at hz
            rcases hz with rfl
            · exact ⟨by decide, 2, w3_173, by decide, by decide, by decide⟩) rfl (by decide) w3_87 w3_94 (fun q => ?_)
        refine s_astore hX dL_loop_17 (by decide) ?_
        refine s_iconst 2 hX dL_loop_19 (by decide) ?_
        refine s_topi (1 + 1) (by decide) ?_
        exact hret _ _ _ (Nat.le_refl _) (Nat.le_refl _) dL_loop_20
      · replace h := (if_neg c1).symm.trans h
        cases h
def fL_cost (σ : Mm) (l1 : Int32) (l2 : Int32) : Option (Int32 × Mm) := (fX9_cost σ l1 l2).bind (lwR [1, 5])
set_option maxHeartbeats 4000000 in
theorem cL_cost_ok (l : Launch) (hl : l.stackTraces = false) {σ : Mm} {l1 : Int32} {l2 : Int32} {r : Int32} {σ' : Mm} (h : fL_cost σ l1 l2 = some (r, σ')) : cL l yL_cost cL_cost 5 [(0, 10, 13, 13), (0, 10, 17, 58)] 10 163 (fun ad => [.ref (ad 0), .int l1, .int l2, .ref (ad 170)]) σ r σ' := by
  refine c_enterL (fun ad => [some (.ref (ad 0)), some (.int l1), some (.int l2), some (.ref (ad 170)), none]) (by decide) (fun ad => ⟨by simp [Value.category], Nat.le_of_ble_eq_true rfl⟩) (fun ad => ⟨1, rfl⟩) ?_
  intro X hsl hX hct hnc htab hret
  have hlX : (sl X).stackTraces = false := by rw [hsl]; exact hl
  have hcs : ((0 : Nat), (0 : Nat)).1 ≤ (sR X).cells ∧ ((0 : Nat), (0 : Nat)).2 ≤ (sR X).slots := ⟨Nat.zero_le _, Nat.zero_le _⟩
  unfold fL_cost at h
  obtain ⟨⟨e, v, s⟩, hc, h⟩ := bn_some h
  show sW X 5 (0, 0) σ 0 [some (.ref (sad X 0)), some (.int l1), some (.int l2), some (.ref (sad X 170)), none] []
  refine s_aload_n hX dL_cost_0 rfl ?_
  refine s_iconst 0 hX dL_cost_1 (by decide) ?_
  refine s_aload_n hX dL_cost_2 rfl ?_
  refine s_iload_n hX dL_cost_3 rfl ?_
  refine s_iload_n hX dL_cost_4 rfl ?_
  by_cases he : e = 0
  · subst he
    obtain ⟨rfl, rfl⟩ := rt2 ((if_pos rfl).symm.trans h)
    refine s_callVI _ hX (cX9_cost_ok (sl X) hc) SH_0 mv_RL_54_8 (fun _ => rfl) (by decide) (Nat.le_of_ble_eq_true rfl) hcs dL_cost_5 rfl ?_
    refine s_i2l hX dL_cost_8 ?_
    refine s_last hX in01 dL_cost_9 ?_
    refine s_goto (tgt := 21) hX dL_cost_10 (by decide) ?_
    refine s_iconst 0 hX dL_cost_21 (by decide) ?_
    exact hret _ _ _ (by decide) (by decide) dL_cost_22
  · replace h := (if_neg he).symm.trans h
    replace h : (if e = 1 then some (1, s) else lwH [5] (1 + 1) (e, v, s)) = some (r, σ') := h
    by_cases c0 : e = 1
    · subst c0
      obtain ⟨rfl, rfl⟩ := rt2 ((if_pos rfl).symm.trans h)
      refine s_callCT _ [] (0, 10, 13, 13) [(0, 10, 17, 58)] hX (cX9_cost_th (sl X) hlX he hc) SH_0 rfl mt_RL_54 (fun _ => rfl) (by decide) (Nat.le_of_ble_eq_true rfl) hct dL_cost_5 rfl hnc htab rfl (by decide) (fun z hz => nomatch hz) rfl (by decide) w3_87 w3_94 (fun q => ?_)
      refine s_astore hX dL_cost_13 (by decide) ?_
      refine s_iconst 1 hX dL_cost_15 (by decide) ?_
      exact hret _ _ _ (Nat.le_refl _) (Nat.le_refl _) dL_cost_16
    · replace h := (if_neg c0).symm.trans h
      replace h : (if e = 5 then some (1 + 1, s) else lwH [] (1 + 1 + 1) (e, v, s)) = some (r, σ') := h
      by_cases c1 : e = 5
      · subst c1
        obtain ⟨rfl, rfl⟩ := rt2 ((if_pos rfl).symm.trans h)
        refine s_callCT _ [(0, 10, 13, 13)] (0, 10, 17, 58) [] hX (cX9_cost_th (sl X) hlX he hc) SH_0 rfl mt_RL_54 (fun _ => rfl) (by decide) (Nat.le_of_ble_eq_true rfl) hct dL_cost_5 rfl hnc htab rfl (by decide) (fun z hz => by
            simp only [List.mem_cons, List.not_mem_nil, or_false] at hz
            rcases hz with rfl
            · exact ⟨by decide, 1, w3_87, by decide, by decide, by decide⟩) rfl (by decide) w4_114 w4_133 (fun q => ?_)
        refine s_astore hX dL_cost_17 (by decide) ?_
        refine s_iconst 2 hX dL_cost_19 (by decide) ?_
        refine s_topi (1 + 1) (by decide) ?_
        exact hret _ _ _ (Nat.le_refl _) (Nat.le_refl _) dL_cost_20
      · replace h := (if_neg c1).symm.trans h
        cases h
def fL_plan (σ : Mm) (l1 : Int32) (l2 : Int32) : Option (Int32 × Mm) := (fX9_plan σ l1 l2).bind (lwR [1])
set_option maxHeartbeats 4000000 in
theorem cL_plan_ok (l : Launch) (hl : l.stackTraces = false) {σ : Mm} {l1 : Int32} {l2 : Int32} {r : Int32} {σ' : Mm} (h : fL_plan σ l1 l2 = some (r, σ')) : cL l yL_plan cL_plan 5 [(0, 10, 13, 13)] 9 164 (fun ad => [.ref (ad 0), .int l1, .int l2, .ref (ad 170)]) σ r σ' := by
  refine c_enterL (fun ad => [some (.ref (ad 0)), some (.int l1), some (.int l2), some (.ref (ad 170)), none]) (by decide) (fun ad => ⟨by simp [Value.category], Nat.le_of_ble_eq_true rfl⟩) (fun ad => ⟨1, rfl⟩) ?_
  intro X hsl hX hct hnc htab hret
  have hlX : (sl X).stackTraces = false := by rw [hsl]; exact hl
  have hcs : ((0 : Nat), (0 : Nat)).1 ≤ (sR X).cells ∧ ((0 : Nat), (0 : Nat)).2 ≤ (sR X).slots := ⟨Nat.zero_le _, Nat.zero_le _⟩
  unfold fL_plan at h
  obtain ⟨⟨e, v, s⟩, hc, h⟩ := bn_some h
  show sW X 5 (0, 0) σ 0 [some (.ref (sad X 0)), some (.int l1), some (.int l2), some (.ref (sad X 170)), none] []
  refine s_aload_n hX dL_plan_0 rfl ?_
  refine s_iconst 0 hX dL_plan_1 (by decide) ?_
  refine s_aload_n hX dL_plan_2 rfl ?_
  refine s_iload_n hX dL_plan_3 rfl ?_
  refine s_iload_n hX dL_plan_4 rfl ?_
  by_cases he : e = 0
  · subst he
    obtain ⟨rfl, rfl⟩ := rt2 ((if_pos rfl).symm.trans h)
    refine s_callVI _ hX (cX9_plan_ok (sl X) hc) SH_0 mv_RL_60_8 (fun _ => rfl) (by decide) (Nat.le_of_ble_eq_true rfl) hcs dL_plan_5 rfl ?_
    refine s_i2l hX dL_plan_8 ?_
    refine s_last hX in01 dL_plan_9 ?_
    refine s_goto (tgt := 17) hX dL_plan_10 (by decide) ?_
    refine s_iconst 0 hX dL_plan_17 (by decide) ?_
    exact hret _ _ _ (by decide) (by decide) dL_plan_18
  · replace h := (if_neg he).symm.trans h
    replace h : (if e = 1 then some (1, s) else lwH [] (1 + 1) (e, v, s)) = some (r, σ') := h
    by_cases c0 : e = 1
    · subst c0
      obtain ⟨rfl, rfl⟩ := rt2 ((if_pos rfl).symm.trans h)
      refine s_callCT _ [] (0, 10, 13, 13) [] hX (cX9_plan_th (sl X) hlX he hc) SH_0 rfl mt_RL_60 (fun _ => rfl) (by decide) (Nat.le_of_ble_eq_true rfl) hct dL_plan_5 rfl hnc htab rfl (by decide) (fun z hz => nomatch hz) rfl (by decide) w3_87 w3_94 (fun q => ?_)
      refine s_astore hX dL_plan_13 (by decide) ?_
      refine s_iconst 1 hX dL_plan_15 (by decide) ?_
      exact hret _ _ _ (Nat.le_refl _) (Nat.le_refl _) dL_plan_16
    · replace h := (if_neg c0).symm.trans h
      cases h
def fL_home (σ : Mm) (l1 : Int32) (l2 : Int32) : Option (Int32 × Mm) := (fX9_home σ l1 l2).bind (lwR [1, 3])
set_option maxHeartbeats 4000000 in
theorem cL_home_ok (l : Launch) (hl : l.stackTraces = false) {σ : Mm} {l1 : Int32} {l2 : Int32} {r : Int32} {σ' : Mm} (h : fL_home σ l1 l2 = some (r, σ')) : cL l yL_home cL_home 5 [(0, 10, 13, 13), (0, 10, 17, 21)] 10 163 (fun ad => [.ref (ad 0), .int l1, .int l2, .ref (ad 170)]) σ r σ' := by
  refine c_enterL (fun ad => [some (.ref (ad 0)), some (.int l1), some (.int l2), some (.ref (ad 170)), none]) (by decide) (fun ad => ⟨by simp [Value.category], Nat.le_of_ble_eq_true rfl⟩) (fun ad => ⟨1, rfl⟩) ?_
  intro X hsl hX hct hnc htab hret
  have hlX : (sl X).stackTraces = false := by rw [hsl]; exact hl
  have hcs : ((0 : Nat), (0 : Nat)).1 ≤ (sR X).cells ∧ ((0 : Nat), (0 : Nat)).2 ≤ (sR X).slots := ⟨Nat.zero_le _, Nat.zero_le _⟩
  unfold fL_home at h
  obtain ⟨⟨e, v, s⟩, hc, h⟩ := bn_some h
  show sW X 5 (0, 0) σ 0 [some (.ref (sad X 0)), some (.int l1), some (.int l2), some (.ref (sad X 170)), none] []
  refine s_aload_n hX dL_home_0 rfl ?_
  refine s_iconst 0 hX dL_home_1 (by decide) ?_
  refine s_aload_n hX dL_home_2 rfl ?_
  refine s_iload_n hX dL_home_3 rfl ?_
  refine s_iload_n hX dL_home_4 rfl ?_
  by_cases he : e = 0
  · subst he
    obtain ⟨rfl, rfl⟩ := rt2 ((if_pos rfl).symm.trans h)
    refine s_callVI _ hX (cX9_home_ok (sl X) hc) SH_0 mv_RL_63_8 (fun _ => rfl) (by decide) (Nat.le_of_ble_eq_true rfl) hcs dL_home_5 rfl ?_
    refine s_i2l hX dL_home_8 ?_
    refine s_last hX in01 dL_home_9 ?_
    refine s_goto (tgt := 21) hX dL_home_10 (by decide) ?_
    refine s_iconst 0 hX dL_home_21 (by decide) ?_
    exact hret _ _ _ (by decide) (by decide) dL_home_22
  · replace h := (if_neg he).symm.trans h
    replace h : (if e = 1 then some (1, s) else lwH [3] (1 + 1) (e, v, s)) = some (r, σ') := h
    by_cases c0 : e = 1
    · subst c0
      obtain ⟨rfl, rfl⟩ := rt2 ((if_pos rfl).symm.trans h)
      refine s_callCT _ [] (0, 10, 13, 13) [(0, 10, 17, 21)] hX (cX9_home_th (sl X) hlX he hc) SH_0 rfl mt_RL_63 (fun _ => rfl) (by decide) (Nat.le_of_ble_eq_true rfl) hct dL_home_5 rfl hnc htab rfl (by decide) (fun z hz => nomatch hz) rfl (by decide) w3_87 w3_94 (fun q => ?_)
      refine s_astore hX dL_home_13 (by decide) ?_
      refine s_iconst 1 hX dL_home_15 (by decide) ?_
      exact hret _ _ _ (Nat.le_refl _) (Nat.le_refl _) dL_home_16
    · replace h := (if_neg c0).symm.trans h
      replace h : (if e = 3 then some (1 + 1, s) else lwH [] (1 + 1 + 1) (e, v, s)) = some (r, σ') := h
      by_cases c1 : e = 3
      · subst c1
        obtain ⟨rfl, rfl⟩ := rt2 ((if_pos rfl).symm.trans h)
        refine s_callCT _ [(0, 10, 13, 13)] (0, 10, 17, 21) [] hX (cX9_home_th (sl X) hlX he hc) SH_0 rfl mt_RL_63 (fun _ => rfl) (by decide) (Nat.le_of_ble_eq_true rfl) hct dL_home_5 rfl hnc htab rfl (by decide) (fun z hz => by
            simp only [List.mem_cons, List.not_mem_nil, or_false] at hz
            rcases hz with rfl
            · exact ⟨by decide, 1, w3_87, by decide, by decide, by decide⟩) rfl (by decide) w3_197 w3_228 (fun q => ?_)
        refine s_astore hX dL_home_17 (by decide) ?_
        refine s_iconst 2 hX dL_home_19 (by decide) ?_
        refine s_topi (1 + 1) (by decide) ?_
        exact hret _ _ _ (Nat.le_refl _) (Nat.le_refl _) dL_home_20
      · replace h := (if_neg c1).symm.trans h
        cases h
def fL_promoted (σ : Mm) (l1 : Int32) (l2 : Int32) : Option (Int32 × Mm) := (fX9_promoted σ l1 l2).bind (lwR [1, 2, 3, 4])
set_option maxHeartbeats 4000000 in
theorem cL_promoted_ok (l : Launch) (hl : l.stackTraces = false) {σ : Mm} {l1 : Int32} {l2 : Int32} {r : Int32} {σ' : Mm} (h : fL_promoted σ l1 l2 = some (r, σ')) : cL l yL_promoted cL_promoted 5 [(0, 10, 13, 13), (0, 10, 17, 19), (0, 10, 21, 21), (0, 10, 25, 26)] 10 164 (fun ad => [.ref (ad 0), .int l1, .int l2, .ref (ad 170)]) σ r σ' := by
  refine c_enterL (fun ad => [some (.ref (ad 0)), some (.int l1), some (.int l2), some (.ref (ad 170)), none]) (by decide) (fun ad => ⟨by simp [Value.category], Nat.le_of_ble_eq_true rfl⟩) (fun ad => ⟨1, rfl⟩) ?_
  intro X hsl hX hct hnc htab hret
  have hlX : (sl X).stackTraces = false := by rw [hsl]; exact hl
  have hcs : ((0 : Nat), (0 : Nat)).1 ≤ (sR X).cells ∧ ((0 : Nat), (0 : Nat)).2 ≤ (sR X).slots := ⟨Nat.zero_le _, Nat.zero_le _⟩
  unfold fL_promoted at h
  obtain ⟨⟨e, v, s⟩, hc, h⟩ := bn_some h
  show sW X 5 (0, 0) σ 0 [some (.ref (sad X 0)), some (.int l1), some (.int l2), some (.ref (sad X 170)), none] []
  refine s_aload_n hX dL_promoted_0 rfl ?_
  refine s_iconst 0 hX dL_promoted_1 (by decide) ?_
  refine s_aload_n hX dL_promoted_2 rfl ?_
  refine s_iload_n hX dL_promoted_3 rfl ?_
  refine s_iload_n hX dL_promoted_4 rfl ?_
  by_cases he : e = 0
  · subst he
    obtain ⟨rfl, rfl⟩ := rt2 ((if_pos rfl).symm.trans h)
    refine s_callVI _ hX (cX9_promoted_ok (sl X) hc) SH_0 mv_RL_66_8 (fun _ => rfl) (by decide) (Nat.le_of_ble_eq_true rfl) hcs dL_promoted_5 rfl ?_
    refine s_i2l hX dL_promoted_8 ?_
    refine s_last hX in01 dL_promoted_9 ?_
    refine s_goto (tgt := 29) hX dL_promoted_10 (by decide) ?_
    refine s_iconst 0 hX dL_promoted_29 (by decide) ?_
    exact hret _ _ _ (by decide) (by decide) dL_promoted_30
  · replace h := (if_neg he).symm.trans h
    replace h : (if e = 1 then some (1, s) else lwH [2, 3, 4] (1 + 1) (e, v, s)) = some (r, σ') := h
    by_cases c0 : e = 1
    · subst c0
      obtain ⟨rfl, rfl⟩ := rt2 ((if_pos rfl).symm.trans h)
      refine s_callCT _ [] (0, 10, 13, 13) [(0, 10, 17, 19), (0, 10, 21, 21), (0, 10, 25, 26)] hX (cX9_promoted_th (sl X) hlX he hc) SH_0 rfl mt_RL_66 (fun _ => rfl) (by decide) (Nat.le_of_ble_eq_true rfl) hct dL_promoted_5 rfl hnc htab rfl (by decide) (fun z hz => nomatch hz) rfl (by decide) w3_87 w3_94 (fun q => ?_)
      refine s_astore hX dL_promoted_13 (by decide) ?_
      refine s_iconst 1 hX dL_promoted_15 (by decide) ?_
      exact hret _ _ _ (Nat.le_refl _) (Nat.le_refl _) dL_promoted_16
    · replace h := (if_neg c0).symm.trans h
      replace h : (if e = 2 then some (1 + 1, s) else lwH [3, 4] (1 + 1 + 1) (e, v, s)) = some (r, σ') := h
      by_cases c1 : e = 2
      · subst c1
        obtain ⟨rfl, rfl⟩ := rt2 ((if_pos rfl).symm.trans h)
        refine s_callCT _ [(0, 10, 13, 13)] (0, 10, 17, 19) [(0, 10, 21, 21), (0, 10, 25, 26)] hX (cX9_promoted_th (sl X) hlX he hc) SH_0 rfl mt_RL_66 (fun _ => rfl) (by decide) (Nat.le_of_ble_eq_true rfl) hct dL_promoted_5 rfl hnc htab rfl (by decide) (fun z hz => by
            simp only [List.mem_cons, List.not_mem_nil, or_false] at hz
            rcases hz with rfl
            · exact ⟨by decide, 1, w3_87, by decide, by decide, by decide⟩) rfl (by decide) w3_173 w3_208 (fun q => ?_)
        refine s_astore hX dL_promoted_17 (by decide) ?_
        refine s_iconst 2 hX dL_promoted_19 (by decide) ?_
        refine s_topi (1 + 1) (by decide) ?_
        exact hret _ _ _ (Nat.le_refl _) (Nat.le_refl _) dL_promoted_20
      · replace h := (if_neg c1).symm.trans h
        replace h : (if e = 3 then some (1 + 1 + 1, s) else lwH [4] (1 + 1 + 1 + 1) (e, v, s)) = some (r, σ') := h
        by_cases c2 : e = 3
        · subst c2
          obtain ⟨rfl, rfl⟩ := rt2 ((if_pos rfl).symm.trans h)
          refine s_callCT _ [(0, 10, 13, 13), (0, 10, 17, 19)] (0, 10, 21, 21) [(0, 10, 25, 26)] hX (cX9_promoted_th (sl X) hlX he hc) SH_0 rfl mt_RL_66 (fun _ => rfl) (by decide) (Nat.le_of_ble_eq_true rfl) hct dL_promoted_5 rfl hnc htab rfl (by decide) (fun z hz => by
              simp only [List.mem_cons, List.not_mem_nil, or_false] at hz
              rcases hz with rfl | rfl
              · exact ⟨by decide, 1, w3_87, by decide, by decide, by decide⟩
              · exact ⟨by decide, 2, w3_173, by decide, by decide, by decide⟩) rfl (by decide) w3_197 w3_228 (fun q => ?_)
          refine s_astore hX dL_promoted_21 (by decide) ?_
          refine s_iconst 3 hX dL_promoted_23 (by decide) ?_
          refine s_topi (1 + 1 + 1) (by decide) ?_
          exact hret _ _ _ (Nat.le_refl _) (Nat.le_refl _) dL_promoted_24
        · replace h := (if_neg c2).symm.trans h
          replace h : (if e = 4 then some (1 + 1 + 1 + 1, s) else lwH [] (1 + 1 + 1 + 1 + 1) (e, v, s)) = some (r, σ') := h
          by_cases c3 : e = 4
          · subst c3
            obtain ⟨rfl, rfl⟩ := rt2 ((if_pos rfl).symm.trans h)
            refine s_callCT _ [(0, 10, 13, 13), (0, 10, 17, 19), (0, 10, 21, 21)] (0, 10, 25, 26) [] hX (cX9_promoted_th (sl X) hlX he hc) SH_0 rfl mt_RL_66 (fun _ => rfl) (by decide) (Nat.le_of_ble_eq_true rfl) hct dL_promoted_5 rfl hnc htab rfl (by decide) (fun z hz => by
                simp only [List.mem_cons, List.not_mem_nil, or_false] at hz
                rcases hz with rfl | rfl | rfl
                · exact ⟨by decide, 1, w3_87, by decide, by decide, by decide⟩
                · exact ⟨by decide, 2, w3_173, by decide, by decide, by decide⟩
                · exact ⟨by decide, 3, w3_197, by decide, by decide, by decide⟩) rfl (by decide) w4_9 w4_16 (fun q => ?_)
            refine s_astore hX dL_promoted_25 (by decide) ?_
            refine s_iconst 4 hX dL_promoted_27 (by decide) ?_
            refine s_topi (1 + 1 + 1 + 1) (by decide) ?_
            exact hret _ _ _ (Nat.le_refl _) (Nat.le_refl _) dL_promoted_28
          · replace h := (if_neg c3).symm.trans h
            cases h
def fL_planned (σ : Mm) (l1 : Int32) : Option (Int32 × Mm) := (fX9_planned σ l1).bind (lwR [1, 3])
set_option maxHeartbeats 4000000 in
theorem cL_planned_ok (l : Launch) (hl : l.stackTraces = false) {σ : Mm} {l1 : Int32} {r : Int32} {σ' : Mm} (h : fL_planned σ l1 = some (r, σ')) : cL l yL_planned cL_planned 4 [(0, 9, 12, 13), (0, 9, 15, 21)] 10 161 (fun ad => [.ref (ad 0), .int l1, .ref (ad 170)]) σ r σ' := by
  refine c_enterL (fun ad => [some (.ref (ad 0)), some (.int l1), some (.ref (ad 170)), none]) (by decide) (fun ad => ⟨by simp [Value.category], Nat.le_of_ble_eq_true rfl⟩) (fun ad => ⟨1, rfl⟩) ?_
  intro X hsl hX hct hnc htab hret
  have hlX : (sl X).stackTraces = false := by rw [hsl]; exact hl
  have hcs : ((0 : Nat), (0 : Nat)).1 ≤ (sR X).cells ∧ ((0 : Nat), (0 : Nat)).2 ≤ (sR X).slots := ⟨Nat.zero_le _, Nat.zero_le _⟩
  unfold fL_planned at h
  obtain ⟨⟨e, v, s⟩, hc, h⟩ := bn_some h
  show sW X 4 (0, 0) σ 0 [some (.ref (sad X 0)), some (.int l1), some (.ref (sad X 170)), none] []
  refine s_aload_n hX dL_planned_0 rfl ?_
  refine s_iconst 0 hX dL_planned_1 (by decide) ?_
  refine s_aload_n hX dL_planned_2 rfl ?_
  refine s_iload_n hX dL_planned_3 rfl ?_
  by_cases he : e = 0
  · subst he
    obtain ⟨rfl, rfl⟩ := rt2 ((if_pos rfl).symm.trans h)
    refine s_callVI _ hX (cX9_planned_ok (sl X) hc) SH_0 mv_RL_69_8 (fun _ => rfl) (by decide) (Nat.le_of_ble_eq_true rfl) hcs dL_planned_4 rfl ?_
    refine s_i2l hX dL_planned_7 ?_
    refine s_last hX in01 dL_planned_8 ?_
    refine s_goto (tgt := 18) hX dL_planned_9 (by decide) ?_
    refine s_iconst 0 hX dL_planned_18 (by decide) ?_
    exact hret _ _ _ (by decide) (by decide) dL_planned_19
  · replace h := (if_neg he).symm.trans h
    replace h : (if e = 1 then some (1, s) else lwH [3] (1 + 1) (e, v, s)) = some (r, σ') := h
    by_cases c0 : e = 1
    · subst c0
      obtain ⟨rfl, rfl⟩ := rt2 ((if_pos rfl).symm.trans h)
      refine s_callCT _ [] (0, 9, 12, 13) [(0, 9, 15, 21)] hX (cX9_planned_th (sl X) hlX he hc) SH_0 rfl mt_RL_69 (fun _ => rfl) (by decide) (Nat.le_of_ble_eq_true rfl) hct dL_planned_4 rfl hnc htab rfl (by decide) (fun z hz => nomatch hz) rfl (by decide) w3_87 w3_94 (fun q => ?_)
      refine s_astore_n hX dL_planned_12 (by decide) ?_
      refine s_iconst 1 hX dL_planned_13 (by decide) ?_
      exact hret _ _ _ (Nat.le_refl _) (Nat.le_refl _) dL_planned_14
    · replace h := (if_neg c0).symm.trans h
      replace h : (if e = 3 then some (1 + 1, s) else lwH [] (1 + 1 + 1) (e, v, s)) = some (r, σ') := h
      by_cases c1 : e = 3
      · subst c1
        obtain ⟨rfl, rfl⟩ := rt2 ((if_pos rfl).symm.trans h)
        refine s_callCT _ [(0, 9, 12, 13)] (0, 9, 15, 21) [] hX (cX9_planned_th (sl X) hlX he hc) SH_0 rfl mt_RL_69 (fun _ => rfl) (by decide) (Nat.le_of_ble_eq_true rfl) hct dL_planned_4 rfl hnc htab rfl (by decide) (fun z hz => by
            simp only [List.mem_cons, List.not_mem_nil, or_false] at hz
            rcases hz with rfl
            · exact ⟨by decide, 1, w3_87, by decide, by decide, by decide⟩) rfl (by decide) w3_197 w3_228 (fun q => ?_)
        refine s_astore_n hX dL_planned_15 (by decide) ?_
        refine s_iconst 2 hX dL_planned_16 (by decide) ?_
        refine s_topi (1 + 1) (by decide) ?_
        exact hret _ _ _ (Nat.le_refl _) (Nat.le_refl _) dL_planned_17
      · replace h := (if_neg c1).symm.trans h
        cases h
def fL_run (σ : Mm) (l1 : Int32) : Option (Int32 × Mm) := (fX9_run σ l1).bind (lwR [1, 6])
set_option maxHeartbeats 4000000 in
theorem cL_run_ok (l : Launch) (hl : l.stackTraces = false) {σ : Mm} {l1 : Int32} {r : Int32} {σ' : Mm} (h : fL_run σ l1 = some (r, σ')) : cL l yL_run cL_run 4 [(0, 9, 12, 13), (0, 9, 15, 75)] 10 163 (fun ad => [.ref (ad 0), .int l1, .ref (ad 170)]) σ r σ' := by
  refine c_enterL (fun ad => [some (.ref (ad 0)), some (.int l1), some (.ref (ad 170)), none]) (by decide) (fun ad => ⟨by simp [Value.category], Nat.le_of_ble_eq_true rfl⟩) (fun ad => ⟨1, rfl⟩) ?_
  intro X hsl hX hct hnc htab hret
  have hlX : (sl X).stackTraces = false := by rw [hsl]; exact hl
  have hcs : ((0 : Nat), (0 : Nat)).1 ≤ (sR X).cells ∧ ((0 : Nat), (0 : Nat)).2 ≤ (sR X).slots := ⟨Nat.zero_le _, Nat.zero_le _⟩
  unfold fL_run at h
  obtain ⟨⟨e, v, s⟩, hc, h⟩ := bn_some h
  show sW X 4 (0, 0) σ 0 [some (.ref (sad X 0)), some (.int l1), some (.ref (sad X 170)), none] []
  refine s_aload_n hX dL_run_0 rfl ?_
  refine s_iconst 0 hX dL_run_1 (by decide) ?_
  refine s_aload_n hX dL_run_2 rfl ?_
  refine s_iload_n hX dL_run_3 rfl ?_
  by_cases he : e = 0
  · subst he
    obtain ⟨rfl, rfl⟩ := rt2 ((if_pos rfl).symm.trans h)
    refine s_callVI _ hX (cX9_run_ok (sl X) hc) SH_0 mv_RL_72_8 (fun _ => rfl) (by decide) (Nat.le_of_ble_eq_true rfl) hcs dL_run_4 rfl ?_
    refine s_i2l hX dL_run_7 ?_
    refine s_last hX in01 dL_run_8 ?_
    refine s_goto (tgt := 18) hX dL_run_9 (by decide) ?_
    refine s_iconst 0 hX dL_run_18 (by decide) ?_
    exact hret _ _ _ (by decide) (by decide) dL_run_19
  · replace h := (if_neg he).symm.trans h
    replace h : (if e = 1 then some (1, s) else lwH [6] (1 + 1) (e, v, s)) = some (r, σ') := h
    by_cases c0 : e = 1
    · subst c0
      obtain ⟨rfl, rfl⟩ := rt2 ((if_pos rfl).symm.trans h)
      refine s_callCT _ [] (0, 9, 12, 13) [(0, 9, 15, 75)] hX (cX9_run_th (sl X) hlX he hc) SH_0 rfl mt_RL_72 (fun _ => rfl) (by decide) (Nat.le_of_ble_eq_true rfl) hct dL_run_4 rfl hnc htab rfl (by decide) (fun z hz => nomatch hz) rfl (by decide) w3_87 w3_94 (fun q => ?_)
      refine s_astore_n hX dL_run_12 (by decide) ?_
      refine s_iconst 1 hX dL_run_13 (by decide) ?_
      exact hret _ _ _ (Nat.le_refl _) (Nat.le_refl _) dL_run_14
    · replace h := (if_neg c0).symm.trans h
      replace h : (if e = 6 then some (1 + 1, s) else lwH [] (1 + 1 + 1) (e, v, s)) = some (r, σ') := h
      by_cases c1 : e = 6
      · subst c1
        obtain ⟨rfl, rfl⟩ := rt2 ((if_pos rfl).symm.trans h)
        refine s_callCT _ [(0, 9, 12, 13)] (0, 9, 15, 75) [] hX (cX9_run_th (sl X) hlX he hc) SH_0 rfl mt_RL_72 (fun _ => rfl) (by decide) (Nat.le_of_ble_eq_true rfl) hct dL_run_4 rfl hnc htab rfl (by decide) (fun z hz => by
            simp only [List.mem_cons, List.not_mem_nil, or_false] at hz
            rcases hz with rfl
            · exact ⟨by decide, 1, w3_87, by decide, by decide, by decide⟩) rfl (by decide) w5_51 w5_63 (fun q => ?_)
        refine s_astore_n hX dL_run_15 (by decide) ?_
        refine s_iconst 2 hX dL_run_16 (by decide) ?_
        refine s_topi (1 + 1) (by decide) ?_
        exact hret _ _ _ (Nat.le_refl _) (Nat.le_refl _) dL_run_17
      · replace h := (if_neg c1).symm.trans h
        cases h
def fL_runPlanned (σ : Mm) (l1 : Int32) : Option (Int32 × Mm) := (fX9_runPlanned σ l1).bind (lwR [1, 3, 6])
set_option maxHeartbeats 4000000 in
theorem cL_runPlanned_ok (l : Launch) (hl : l.stackTraces = false) {σ : Mm} {l1 : Int32} {r : Int32} {σ' : Mm} (h : fL_runPlanned σ l1 = some (r, σ')) : cL l yL_runPlanned cL_runPlanned 4 [(0, 9, 12, 13), (0, 9, 15, 21), (0, 9, 18, 75)] 10 163 (fun ad => [.ref (ad 0), .int l1, .ref (ad 170)]) σ r σ' := by
  refine c_enterL (fun ad => [some (.ref (ad 0)), some (.int l1), some (.ref (ad 170)), none]) (by decide) (fun ad => ⟨by simp [Value.category], Nat.le_of_ble_eq_true rfl⟩) (fun ad => ⟨1, rfl⟩) ?_
  intro X hsl hX hct hnc htab hret
  have hlX : (sl X).stackTraces = false := by rw [hsl]; exact hl
  have hcs : ((0 : Nat), (0 : Nat)).1 ≤ (sR X).cells ∧ ((0 : Nat), (0 : Nat)).2 ≤ (sR X).slots := ⟨Nat.zero_le _, Nat.zero_le _⟩
  unfold fL_runPlanned at h
  obtain ⟨⟨e, v, s⟩, hc, h⟩ := bn_some h
  show sW X 4 (0, 0) σ 0 [some (.ref (sad X 0)), some (.int l1), some (.ref (sad X 170)), none] []
  refine s_aload_n hX dL_runPlanned_0 rfl ?_
  refine s_iconst 0 hX dL_runPlanned_1 (by decide) ?_
  refine s_aload_n hX dL_runPlanned_2 rfl ?_
  refine s_iload_n hX dL_runPlanned_3 rfl ?_
  by_cases he : e = 0
  · subst he
    obtain ⟨rfl, rfl⟩ := rt2 ((if_pos rfl).symm.trans h)
    refine s_callVI _ hX (cX9_runPlanned_ok (sl X) hc) SH_0 mv_RL_77_8 (fun _ => rfl) (by decide) (Nat.le_of_ble_eq_true rfl) hcs dL_runPlanned_4 rfl ?_
    refine s_i2l hX dL_runPlanned_7 ?_
    refine s_last hX in01 dL_runPlanned_8 ?_
    refine s_goto (tgt := 21) hX dL_runPlanned_9 (by decide) ?_
    refine s_iconst 0 hX dL_runPlanned_21 (by decide) ?_
    exact hret _ _ _ (by decide) (by decide) dL_runPlanned_22
  · replace h := (if_neg he).symm.trans h
    replace h : (if e = 1 then some (1, s) else lwH [3, 6] (1 + 1) (e, v, s)) = some (r, σ') := h
    by_cases c0 : e = 1
    · subst c0
      obtain ⟨rfl, rfl⟩ := rt2 ((if_pos rfl).symm.trans h)
      refine s_callCT _ [] (0, 9, 12, 13) [(0, 9, 15, 21), (0, 9, 18, 75)] hX (cX9_runPlanned_th (sl X) hlX he hc) SH_0 rfl mt_RL_77 (fun _ => rfl) (by decide) (Nat.le_of_ble_eq_true rfl) hct dL_runPlanned_4 rfl hnc htab rfl (by decide) (fun z hz => nomatch hz) rfl (by decide) w3_87 w3_94 (fun q => ?_)
      refine s_astore_n hX dL_runPlanned_12 (by decide) ?_
      refine s_iconst 1 hX dL_runPlanned_13 (by decide) ?_
      exact hret _ _ _ (Nat.le_refl _) (Nat.le_refl _) dL_runPlanned_14
    · replace h := (if_neg c0).symm.trans h
      replace h : (if e = 3 then some (1 + 1, s) else lwH [6] (1 + 1 + 1) (e, v, s)) = some (r, σ') := h
      by_cases c1 : e = 3
      · subst c1
        obtain ⟨rfl, rfl⟩ := rt2 ((if_pos rfl).symm.trans h)
        refine s_callCT _ [(0, 9, 12, 13)] (0, 9, 15, 21) [(0, 9, 18, 75)] hX (cX9_runPlanned_th (sl X) hlX he hc) SH_0 rfl mt_RL_77 (fun _ => rfl) (by decide) (Nat.le_of_ble_eq_true rfl) hct dL_runPlanned_4 rfl hnc htab rfl (by decide) (fun z hz => by
            simp only [List.mem_cons, List.not_mem_nil, or_false] at hz
            rcases hz with rfl
            · exact ⟨by decide, 1, w3_87, by decide, by decide, by decide⟩) rfl (by decide) w3_197 w3_228 (fun q => ?_)
        refine s_astore_n hX dL_runPlanned_15 (by decide) ?_
        refine s_iconst 2 hX dL_runPlanned_16 (by decide) ?_
        refine s_topi (1 + 1) (by decide) ?_
        exact hret _ _ _ (Nat.le_refl _) (Nat.le_refl _) dL_runPlanned_17
      · replace h := (if_neg c1).symm.trans h
        replace h : (if e = 6 then some (1 + 1 + 1, s) else lwH [] (1 + 1 + 1 + 1) (e, v, s)) = some (r, σ') := h
        by_cases c2 : e = 6
        · subst c2
          obtain ⟨rfl, rfl⟩ := rt2 ((if_pos rfl).symm.trans h)
          refine s_callCT _ [(0, 9, 12, 13), (0, 9, 15, 21)] (0, 9, 18, 75) [] hX (cX9_runPlanned_th (sl X) hlX he hc) SH_0 rfl mt_RL_77 (fun _ => rfl) (by decide) (Nat.le_of_ble_eq_true rfl) hct dL_runPlanned_4 rfl hnc htab rfl (by decide) (fun z hz => by
              simp only [List.mem_cons, List.not_mem_nil, or_false] at hz
              rcases hz with rfl | rfl
              · exact ⟨by decide, 1, w3_87, by decide, by decide, by decide⟩
              · exact ⟨by decide, 3, w3_197, by decide, by decide, by decide⟩) rfl (by decide) w5_51 w5_63 (fun q => ?_)
          refine s_astore_n hX dL_runPlanned_18 (by decide) ?_
          refine s_iconst 3 hX dL_runPlanned_19 (by decide) ?_
          refine s_topi (1 + 1 + 1) (by decide) ?_
          exact hret _ _ _ (Nat.le_refl _) (Nat.le_refl _) dL_runPlanned_20
        · replace h := (if_neg c2).symm.trans h
          cases h
def fL_executed (σ : Mm) (l1 : Int32) : Option (Int32 × Mm) := (fX9_executed σ l1).bind (lwR [1])
set_option maxHeartbeats 4000000 in
theorem cL_executed_ok (l : Launch) (hl : l.stackTraces = false) {σ : Mm} {l1 : Int32} {r : Int32} {σ' : Mm} (h : fL_executed σ l1 = some (r, σ')) : cL l yL_executed cL_executed 4 [(0, 9, 12, 13)] 9 141 (fun ad => [.ref (ad 0), .int l1, .ref (ad 170)]) σ r σ' := by
  refine c_enterL (fun ad => [some (.ref (ad 0)), some (.int l1), some (.ref (ad 170)), none]) (by decide) (fun ad => ⟨by simp [Value.category], Nat.le_of_ble_eq_true rfl⟩) (fun ad => ⟨1, rfl⟩) ?_
  intro X hsl hX hct hnc htab hret
  have hlX : (sl X).stackTraces = false := by rw [hsl]; exact hl
  have hcs : ((0 : Nat), (0 : Nat)).1 ≤ (sR X).cells ∧ ((0 : Nat), (0 : Nat)).2 ≤ (sR X).slots := ⟨Nat.zero_le _, Nat.zero_le _⟩
  unfold fL_executed at h
  obtain ⟨⟨e, v, s⟩, hc, h⟩ := bn_some h
  show sW X 4 (0, 0) σ 0 [some (.ref (sad X 0)), some (.int l1), some (.ref (sad X 170)), none] []
  refine s_aload_n hX dL_executed_0 rfl ?_
  refine s_iconst 0 hX dL_executed_1 (by decide) ?_
  refine s_aload_n hX dL_executed_2 rfl ?_
  refine s_iload_n hX dL_executed_3 rfl ?_
  by_cases he : e = 0
  · subst he
    obtain ⟨rfl, rfl⟩ := rt2 ((if_pos rfl).symm.trans h)
    refine s_callVI _ hX (cX9_executed_ok (sl X) hc) SH_0 mv_RL_80_8 (fun _ => rfl) (by decide) (Nat.le_of_ble_eq_true rfl) hcs dL_executed_4 rfl ?_
    refine s_i2l hX dL_executed_7 ?_
    refine s_last hX in01 dL_executed_8 ?_
    refine s_goto (tgt := 15) hX dL_executed_9 (by decide) ?_
    refine s_iconst 0 hX dL_executed_15 (by decide) ?_
    exact hret _ _ _ (by decide) (by decide) dL_executed_16
  · replace h := (if_neg he).symm.trans h
    replace h : (if e = 1 then some (1, s) else lwH [] (1 + 1) (e, v, s)) = some (r, σ') := h
    by_cases c0 : e = 1
    · subst c0
      obtain ⟨rfl, rfl⟩ := rt2 ((if_pos rfl).symm.trans h)
      refine s_callCT _ [] (0, 9, 12, 13) [] hX (cX9_executed_th (sl X) hlX he hc) SH_0 rfl mt_RL_80 (fun _ => rfl) (by decide) (Nat.le_of_ble_eq_true rfl) hct dL_executed_4 rfl hnc htab rfl (by decide) (fun z hz => nomatch hz) rfl (by decide) w3_87 w3_94 (fun q => ?_)
      refine s_astore_n hX dL_executed_12 (by decide) ?_
      refine s_iconst 1 hX dL_executed_13 (by decide) ?_
      exact hret _ _ _ (Nat.le_refl _) (Nat.le_refl _) dL_executed_14
    · replace h := (if_neg c0).symm.trans h
      cases h
def fL_visits (σ : Mm) (l1 : Int32) : Option (Int32 × Mm) := (fX9_visits σ l1).bind (lwR [2])
set_option maxHeartbeats 4000000 in
theorem cL_visits_ok (l : Launch) (hl : l.stackTraces = false) {σ : Mm} {l1 : Int32} {r : Int32} {σ' : Mm} (h : fL_visits σ l1 = some (r, σ')) : cL l yL_visits cL_visits 4 [(0, 9, 12, 19)] 10 162 (fun ad => [.ref (ad 0), .int l1, .ref (ad 170)]) σ r σ' := by
  refine c_enterL (fun ad => [some (.ref (ad 0)), some (.int l1), some (.ref (ad 170)), none]) (by decide) (fun ad => ⟨by simp [Value.category], Nat.le_of_ble_eq_true rfl⟩) (fun ad => ⟨1, rfl⟩) ?_
  intro X hsl hX hct hnc htab hret
  have hlX : (sl X).stackTraces = false := by rw [hsl]; exact hl
  have hcs : ((0 : Nat), (0 : Nat)).1 ≤ (sR X).cells ∧ ((0 : Nat), (0 : Nat)).2 ≤ (sR X).slots := ⟨Nat.zero_le _, Nat.zero_le _⟩
  unfold fL_visits at h
  obtain ⟨⟨e, v, s⟩, hc, h⟩ := bn_some h
  show sW X 4 (0, 0) σ 0 [some (.ref (sad X 0)), some (.int l1), some (.ref (sad X 170)), none] []
  refine s_aload_n hX dL_visits_0 rfl ?_
  refine s_iconst 0 hX dL_visits_1 (by decide) ?_
  refine s_aload_n hX dL_visits_2 rfl ?_
  refine s_iload_n hX dL_visits_3 rfl ?_
  by_cases he : e = 0
  · subst he
    obtain ⟨rfl, rfl⟩ := rt2 ((if_pos rfl).symm.trans h)
    refine s_callVI _ hX (cX9_visits_ok (sl X) hc) SH_0 mv_RL_83_8 (fun _ => rfl) (by decide) (Nat.le_of_ble_eq_true rfl) hcs dL_visits_4 rfl ?_
    refine s_i2l hX dL_visits_7 ?_
    refine s_last hX in01 dL_visits_8 ?_
    refine s_goto (tgt := 15) hX dL_visits_9 (by decide) ?_
    refine s_iconst 0 hX dL_visits_15 (by decide) ?_
    exact hret _ _ _ (by decide) (by decide) dL_visits_16
  · replace h := (if_neg he).symm.trans h
    replace h : (if e = 2 then some (1, s) else lwH [] (1 + 1) (e, v, s)) = some (r, σ') := h
    by_cases c0 : e = 2
    · subst c0
      obtain ⟨rfl, rfl⟩ := rt2 ((if_pos rfl).symm.trans h)
      refine s_callCT _ [] (0, 9, 12, 19) [] hX (cX9_visits_th (sl X) hlX he hc) SH_0 rfl mt_RL_83 (fun _ => rfl) (by decide) (Nat.le_of_ble_eq_true rfl) hct dL_visits_4 rfl hnc htab rfl (by decide) (fun z hz => nomatch hz) rfl (by decide) w3_173 w3_208 (fun q => ?_)
      refine s_astore_n hX dL_visits_12 (by decide) ?_
      refine s_iconst 1 hX dL_visits_13 (by decide) ?_
      exact hret _ _ _ (Nat.le_refl _) (Nat.le_refl _) dL_visits_14
    · replace h := (if_neg c0).symm.trans h
      cases h
def fL_feed (σ : Mm) (l1 : Int32) : Option (Int32 × Mm) := (fX9_feed σ l1).bind (lwR [3])
set_option maxHeartbeats 4000000 in
theorem cL_feed_ok (l : Launch) (hl : l.stackTraces = false) {σ : Mm} {l1 : Int32} {r : Int32} {σ' : Mm} (h : fL_feed σ l1 = some (r, σ')) : cL l yL_feed cL_feed 4 [(0, 9, 12, 21)] 9 141 (fun ad => [.ref (ad 0), .int l1, .ref (ad 170)]) σ r σ' := by
  refine c_enterL (fun ad => [some (.ref (ad 0)), some (.int l1), some (.ref (ad 170)), none]) (by decide) (fun ad => ⟨by simp [Value.category], Nat.le_of_ble_eq_true rfl⟩) (fun ad => ⟨1, rfl⟩) ?_
  intro X hsl hX hct hnc htab hret
  have hlX : (sl X).stackTraces = false := by rw [hsl]; exact hl
  have hcs : ((0 : Nat), (0 : Nat)).1 ≤ (sR X).cells ∧ ((0 : Nat), (0 : Nat)).2 ≤ (sR X).slots := ⟨Nat.zero_le _, Nat.zero_le _⟩
  unfold fL_feed at h
  obtain ⟨⟨e, v, s⟩, hc, h⟩ := bn_some h
  show sW X 4 (0, 0) σ 0 [some (.ref (sad X 0)), some (.int l1), some (.ref (sad X 170)), none] []
  refine s_aload_n hX dL_feed_0 rfl ?_
  refine s_iconst 0 hX dL_feed_1 (by decide) ?_
  refine s_aload_n hX dL_feed_2 rfl ?_
  refine s_iload_n hX dL_feed_3 rfl ?_
  by_cases he : e = 0
  · subst he
    obtain ⟨rfl, rfl⟩ := rt2 ((if_pos rfl).symm.trans h)
    refine s_callVI _ hX (cX9_feed_ok (sl X) hc) SH_0 mv_RL_86_8 (fun _ => rfl) (by decide) (Nat.le_of_ble_eq_true rfl) hcs dL_feed_4 rfl ?_
    refine s_i2l hX dL_feed_7 ?_
    refine s_last hX in01 dL_feed_8 ?_
    refine s_goto (tgt := 15) hX dL_feed_9 (by decide) ?_
    refine s_iconst 0 hX dL_feed_15 (by decide) ?_
    exact hret _ _ _ (by decide) (by decide) dL_feed_16
  · replace h := (if_neg he).symm.trans h
    replace h : (if e = 3 then some (1, s) else lwH [] (1 + 1) (e, v, s)) = some (r, σ') := h
    by_cases c0 : e = 3
    · subst c0
      obtain ⟨rfl, rfl⟩ := rt2 ((if_pos rfl).symm.trans h)
      refine s_callCT _ [] (0, 9, 12, 21) [] hX (cX9_feed_th (sl X) hlX he hc) SH_0 rfl mt_RL_86 (fun _ => rfl) (by decide) (Nat.le_of_ble_eq_true rfl) hct dL_feed_4 rfl hnc htab rfl (by decide) (fun z hz => nomatch hz) rfl (by decide) w3_197 w3_228 (fun q => ?_)
      refine s_astore_n hX dL_feed_12 (by decide) ?_
      refine s_iconst 1 hX dL_feed_13 (by decide) ?_
      exact hret _ _ _ (Nat.le_refl _) (Nat.le_refl _) dL_feed_14
    · replace h := (if_neg c0).symm.trans h
      cases h
def fL_read (σ : Mm) (l1 : Int32) : Option (Int32 × Mm) := (fX9_read σ l1).bind (lwR [2])
set_option maxHeartbeats 4000000 in
theorem cL_read_ok (l : Launch) (hl : l.stackTraces = false) {σ : Mm} {l1 : Int32} {r : Int32} {σ' : Mm} (h : fL_read σ l1 = some (r, σ')) : cL l yL_read cL_read 4 [(0, 9, 12, 19)] 10 216 (fun ad => [.ref (ad 0), .int l1, .ref (ad 170)]) σ r σ' := by
  refine c_enterL (fun ad => [some (.ref (ad 0)), some (.int l1), some (.ref (ad 170)), none]) (by decide) (fun ad => ⟨by simp [Value.category], Nat.le_of_ble_eq_true rfl⟩) (fun ad => ⟨1, rfl⟩) ?_
  intro X hsl hX hct hnc htab hret
  have hlX : (sl X).stackTraces = false := by rw [hsl]; exact hl
  have hcs : ((0 : Nat), (0 : Nat)).1 ≤ (sR X).cells ∧ ((0 : Nat), (0 : Nat)).2 ≤ (sR X).slots := ⟨Nat.zero_le _, Nat.zero_le _⟩
  unfold fL_read at h
  obtain ⟨⟨e, v, s⟩, hc, h⟩ := bn_some h
  show sW X 4 (0, 0) σ 0 [some (.ref (sad X 0)), some (.int l1), some (.ref (sad X 170)), none] []
  refine s_aload_n hX dL_read_0 rfl ?_
  refine s_iconst 0 hX dL_read_1 (by decide) ?_
  refine s_aload_n hX dL_read_2 rfl ?_
  refine s_iload_n hX dL_read_3 rfl ?_
  by_cases he : e = 0
  · subst he
    obtain ⟨rfl, rfl⟩ := rt2 ((if_pos rfl).symm.trans h)
    refine s_callVI _ hX (cX9_read_ok (sl X) hc) SH_0 mv_RL_90_8 (fun _ => rfl) (by decide) (Nat.le_of_ble_eq_true rfl) hcs dL_read_4 rfl ?_
    refine s_i2l hX dL_read_7 ?_
    refine s_last hX in01 dL_read_8 ?_
    refine s_goto (tgt := 15) hX dL_read_9 (by decide) ?_
    refine s_iconst 0 hX dL_read_15 (by decide) ?_
    exact hret _ _ _ (by decide) (by decide) dL_read_16
  · replace h := (if_neg he).symm.trans h
    replace h : (if e = 2 then some (1, s) else lwH [] (1 + 1) (e, v, s)) = some (r, σ') := h
    by_cases c0 : e = 2
    · subst c0
      obtain ⟨rfl, rfl⟩ := rt2 ((if_pos rfl).symm.trans h)
      refine s_callCT _ [] (0, 9, 12, 19) [] hX (cX9_read_th (sl X) hlX he hc) SH_0 rfl mt_RL_90 (fun _ => rfl) (by decide) (Nat.le_of_ble_eq_true rfl) hct dL_read_4 rfl hnc htab rfl (by decide) (fun z hz => nomatch hz) rfl (by decide) w3_173 w3_208 (fun q => ?_)
      refine s_astore_n hX dL_read_12 (by decide) ?_
      refine s_iconst 1 hX dL_read_13 (by decide) ?_
      exact hret _ _ _ (Nat.le_refl _) (Nat.le_refl _) dL_read_14
    · replace h := (if_neg c0).symm.trans h
      cases h
def fL_restoreSnapshot (σ : Mm)  : Option (Int32 × Mm) := (fX9_restoreSnapshot σ ).bind (lwR [3])
set_option maxHeartbeats 4000000 in
theorem cL_restoreSnapshot_ok (l : Launch) (hl : l.stackTraces = false) {σ : Mm}  {r : Int32} {σ' : Mm} (h : fL_restoreSnapshot σ  = some (r, σ')) : cL l yL_restoreSnapshot cL_restoreSnapshot 3 [(0, 8, 11, 21)] 9 140 (fun ad => [.ref (ad 0), .ref (ad 170)]) σ r σ' := by
  refine c_enterL (fun ad => [some (.ref (ad 0)), some (.ref (ad 170)), none]) (by decide) (fun ad => ⟨by simp [Value.category], Nat.le_of_ble_eq_true rfl⟩) (fun ad => ⟨1, rfl⟩) ?_
  intro X hsl hX hct hnc htab hret
  have hlX : (sl X).stackTraces = false := by rw [hsl]; exact hl
  have hcs : ((0 : Nat), (0 : Nat)).1 ≤ (sR X).cells ∧ ((0 : Nat), (0 : Nat)).2 ≤ (sR X).slots := ⟨Nat.zero_le _, Nat.zero_le _⟩
  unfold fL_restoreSnapshot at h
  obtain ⟨⟨e, v, s⟩, hc, h⟩ := bn_some h
  show sW X 3 (0, 0) σ 0 [some (.ref (sad X 0)), some (.ref (sad X 170)), none] []
  refine s_aload_n hX dL_restoreSnapshot_0 rfl ?_
  refine s_iconst 0 hX dL_restoreSnapshot_1 (by decide) ?_
  refine s_aload_n hX dL_restoreSnapshot_2 rfl ?_
  by_cases he : e = 0
  · subst he
    obtain ⟨rfl, rfl⟩ := rt2 ((if_pos rfl).symm.trans h)
    refine s_callVI _ hX (cX9_restoreSnapshot_ok (sl X) hc) SH_0 mv_RL_93_8 (fun _ => rfl) (by decide) (Nat.le_of_ble_eq_true rfl) hcs dL_restoreSnapshot_3 rfl ?_
    refine s_i2l hX dL_restoreSnapshot_6 ?_
    refine s_last hX in01 dL_restoreSnapshot_7 ?_
    refine s_goto (tgt := 14) hX dL_restoreSnapshot_8 (by decide) ?_
    refine s_iconst 0 hX dL_restoreSnapshot_14 (by decide) ?_
    exact hret _ _ _ (by decide) (by decide) dL_restoreSnapshot_15
  · replace h := (if_neg he).symm.trans h
    replace h : (if e = 3 then some (1, s) else lwH [] (1 + 1) (e, v, s)) = some (r, σ') := h
    by_cases c0 : e = 3
    · subst c0
      obtain ⟨rfl, rfl⟩ := rt2 ((if_pos rfl).symm.trans h)
      refine s_callCT _ [] (0, 8, 11, 21) [] hX (cX9_restoreSnapshot_th (sl X) hlX he hc) SH_0 rfl mt_RL_93 (fun _ => rfl) (by decide) (Nat.le_of_ble_eq_true rfl) hct dL_restoreSnapshot_3 rfl hnc htab rfl (by decide) (fun z hz => nomatch hz) rfl (by decide) w3_197 w3_228 (fun q => ?_)
      refine s_astore_n hX dL_restoreSnapshot_11 (by decide) ?_
      refine s_iconst 1 hX dL_restoreSnapshot_12 (by decide) ?_
      exact hret _ _ _ (Nat.le_refl _) (Nat.le_refl _) dL_restoreSnapshot_13
    · replace h := (if_neg c0).symm.trans h
      cases h
