/-! the blocks of a loop -/
def pr (P : Pg) (s : Int32) : Int32 := orF (fun b => if sc P b &&& s = 0 then 0 else b1 b) (P_n P)
theorem z_iff {x : Int32} : x = 0 ↔ ∀ i, hb x i = false := ⟨fun e i => by rw [e]; exact hb_0 i, fun h => hb_ext (fun i _ => by rw [h i, hb_0])⟩
theorem nz_iff {x : Int32} : x ≠ 0 ↔ ∃ i, hb x i = true := by
  constructor
  · intro h
    apply Classical.byContradiction
    intro q
    exact h (z_iff.mpr (fun i => by
      cases e : hb x i
      · rfl
      · exact absurd ⟨i, e⟩ q))
  · rintro ⟨i, hi⟩ e
    rw [e, hb_0] at hi
    cases hi
theorem hb_pr {P : Pg} (hw : WP P) {s : Int32} {b : Nat} : hb (pr P s) b = true ↔ b < P_n P ∧ ∃ t, gt P b t = true ∧ hb s t = true := by
  have hn := hw.1.2
  unfold pr
  rw [hb_orF, anyF_iff]
  constructor
  · rintro ⟨k, h1, h2⟩
    split at h2
    · rw [hb_0] at h2; cases h2
    · next c =>
      rw [hb_b1 (by omega)] at h2
      have : k = b := by simpa using h2
      subst this
      obtain ⟨t, ht⟩ := nz_iff.mp c
      rw [hb_and, hb_sc hw (by omega), Bool.and_eq_true] at ht
      exact ⟨h1, t, ht.1, ht.2⟩
  · rintro ⟨h1, t, h2, h3⟩
    refine ⟨b, h1, ?_⟩
    rw [if_neg (nz_iff.mpr ⟨t, by rw [hb_and, hb_sc hw (by omega), h2, h3]; rfl⟩), hb_b1 (by omega)]
    simp
theorem c_pred {σ : Mm} {P : Pg} (hw : WP P) (hc : CP σ 1 4 P) (s : Int32) : fX2_predecessors σ s = some (pr P s) := by
  have hn := hw.1.2
  have c1 := hc.1
  have e : qX2_predecessors_4 σ s FU (0, 0) = some (pr P s) := by
    refine lp_fr (fun k => (orF (fun b => if sc P b &&& s = 0 then 0 else b1 b) k, nI k)) (P_n P) rfl ?_ ?_ (fu (by omega))
    · intro k hk rec
      show gX2_predecessors_4 σ s rec (orF _ k) (nI k) = rec (orF _ k ||| _, nI (k + 1))
      unfold gX2_predecessors_4
      simp (disch := omega) only [obs, bd, jn, bn2, un2, bn3, un3, bns, nI_1, nI_clamp, gN, gN0, gN1, gN2, gN3, nI_leI, nI_ltI, nI_eq, li_le, li_lt, le_li, lt_li, eq_li, li_eq, li_mul, mul_li, add_li, nI_add, m_has, c_has, hI_0, bI_0, c1, c_successors hw hc, if_neg]
      by_cases c : sc P k &&& s = 0
      · simp [c, orB0]
      · simp [c, b1]
    · intro rec
      show gX2_predecessors_4 σ s rec _ (nI (P_n P)) = _
      unfold gX2_predecessors_4
      simp (disch := omega) only [obs, bd, jn, bn2, un2, bn3, un3, bns, nI_1, nI_clamp, gN, gN0, gN1, gN2, gN3, nI_leI, nI_ltI, nI_eq, li_le, li_lt, le_li, lt_li, eq_li, li_eq, li_mul, mul_li, add_li, nI_add, m_has, c_has, hI_0, bI_0, c1, if_pos]
      rfl
  unfold fX2_predecessors
  rw [e]
  rfl
def RT (P : Pg) (h : Nat) : Int32 := (RE P 8 &&& (RE P h ^^^ (-1))) &&& pr P (b1 h)
theorem hb_RT {P : Pg} (hw : WP P) {h u : Nat} (hh : h < 8) : hb (RT P h) u = true ↔ hb (RE P 8) u = true ∧ hb (RE P h) u = false ∧ gt P u h = true := by
  have hn := hw.1.2
  unfold RT
  rw [hb_and, hb_and, Bool.and_eq_true, Bool.and_eq_true, hb_pr hw]
  constructor
  · rintro ⟨⟨h1, h2⟩, h3, t, h4, h5⟩
    rw [hb_not (by omega)] at h2
    rw [hb_b1 (by omega)] at h5
    have : h = t := by simpa using h5
    subst this
    exact ⟨h1, by simpa using h2, h4⟩
  · rintro ⟨h1, h2, h3⟩
    have l : u < P_n P := by
      rcases Nat.lt_or_ge u (P_n P) with c | c
      · exact c
      · rw [RE_lo hw u c] at h1; cases h1
    exact ⟨⟨h1, by rw [hb_not (by omega), h2]; rfl⟩, l, h, h3, by rw [hb_b1 (by omega)]; simp⟩
def isH (P : Pg) (h : Nat) : Bool := decide (RT P h ≠ 0)
def bs (P : Pg) (h : Nat) (s : Int32) : Int32 := s ||| ((pr P s &&& RE P 8) &&& (b1 h ^^^ (-1)))
def LB0 (P : Pg) (h : Nat) : Int32 := itr (fun _ => bs P h) (RT P h &&& (b1 h ^^^ (-1))) (P_n P)
def LB (P : Pg) (h : Nat) : Int32 := LB0 P h ||| b1 h
theorem c_loopBlocks {σ : Mm} {P : Pg} (hw : WP P) (hc : CP σ 1 4 P) {h : Nat} : fX2_loopBlocks σ (nI h) (RT P h) (RE P 8) = some (LB P h) := by
  have hn := hw.1.2
  have c1 := hc.1
  have e : ∀ s, qX2_loopBlocks_12 σ (nI h) (RE P 8) FU (s, 0) = some (itr (fun _ => bs P h) s (P_n P)) := by
    intro s
    refine lp_itr (fun _ => bs P h) (P_n P) some ?_ ?_ (fu (by omega))
    · intro k hk s rec
      show gX2_loopBlocks_12 σ (nI h) (RE P 8) rec s (nI k) = rec (bs P h s, nI (k + 1))
      unfold gX2_loopBlocks_12
      simp (disch := omega) only [obs, bd, jn, bn2, un2, bn3, un3, bns, nI_1, nI_clamp, gN, gN0, gN1, gN2, gN3, nI_leI, nI_ltI, nI_eq, li_le, li_lt, le_li, lt_li, eq_li, li_eq, li_mul, mul_li, add_li, nI_add, m_has, c_has, hI_0, bI_0, c1, c_pred hw hc, if_neg]
      rfl
    · intro s rec
      show gX2_loopBlocks_12 σ (nI h) (RE P 8) rec s (nI (P_n P)) = _
      unfold gX2_loopBlocks_12
      simp (disch := omega) only [obs, bd, jn, bn2, un2, bn3, un3, bns, nI_1, nI_clamp, gN, gN0, gN1, gN2, gN3, nI_leI, nI_ltI, nI_eq, li_le, li_lt, le_li, lt_li, eq_li, li_eq, li_mul, mul_li, add_li, nI_add, m_has, c_has, hI_0, bI_0, c1, if_pos]
  unfold fX2_loopBlocks
  simp only [bd]
  show (qX2_loopBlocks_12 σ (nI h) (RE P 8) FU (RT P h &&& (b1 h ^^^ (-1)), 0)).bind _ = _
  rw [e]
  rfl
theorem RT_lo {P : Pg} (hw : WP P) {h : Nat} : lo (P_n P) (RT P h) := lo_andL (lo_andL (RE_lo hw))
theorem bs_up {P : Pg} {h : Nat} (s : Int32) : sb s (bs P h s) := sb_or _ _
theorem LB0_fix {P : Pg} (hw : WP P) {h : Nat} : bs P h (LB0 P h) = LB0 P h := itr_fix (lo_andL (RT_lo hw)) (fun s hs => lo_or hs (lo_andL (lo_andR (RE_lo hw)))) bs_up
theorem LB0_lo {P : Pg} (hw : WP P) {h : Nat} : lo (P_n P) (LB0 P h) := itr_inv (fun _ x => lo (P_n P) x) (n := P_n P) (lo_andL (RT_lo hw)) (fun k x _ hs => lo_or hs (lo_andL (lo_andR (RE_lo hw)))) _ (Nat.le_refl _)
theorem LB_lo {P : Pg} (hw : WP P) {h : Nat} (hh : h < P_n P) : lo (P_n P) (LB P h) := lo_or (LB0_lo hw) (lo_b1 hh (by have := hw.1.2; omega))
theorem LB_h {P : Pg} {h : Nat} (hh : h < 8) : hb (LB P h) h = true := by
  unfold LB
  rw [hb_or, hb_b1 (by omega)]
  simp
theorem LB_ret {P : Pg} {h u : Nat} (hh : h < 8) (hu : hb (RT P h) u = true) : hb (LB P h) u = true := by
  by_cases c : u = h
  · subst c; exact LB_h hh
  · unfold LB
    rw [hb_or]
    have : hb (LB0 P h) u = true := by
      refine itr_up (a := RT P h &&& (b1 h ^^^ (-1))) (fun _ => bs_up) (i := 0) _ (Nat.zero_le _) u ?_
      show hb (RT P h &&& (b1 h ^^^ (-1))) u = true
      rcases Nat.lt_or_ge u 32 with l | l
      · rw [hb_and, hu, hb_not l, hb_b1 (by omega), decide_eq_false (fun e => c e.symm)]; rfl
      · rw [hb_big l] at hu; cases hu
    rw [this]; rfl
theorem LB_cl {P : Pg} (hw : WP P) {h x t : Nat} (hh : h < 8) (hx : hb (RE P 8) x = true) (hg : gt P x t = true) (ht : hb (LB P h) t = true) (hn : t ≠ h) : hb (LB P h) x = true := by
  by_cases c : x = h
  · subst c; exact LB_h hh
  · have hn8 := hw.1.2
    have l : x < P_n P := by
      rcases Nat.lt_or_ge x (P_n P) with c | c
      · exact c
      · rw [RE_lo hw x c] at hx; cases hx
    have ht0 : hb (LB0 P h) t = true := by
      unfold LB at ht
      rw [hb_or, hb_b1 (by omega), decide_eq_false (fun e => hn e.symm)] at ht
      simpa using ht
    unfold LB
    rw [hb_or]
    have : hb (LB0 P h) x = true := by
      rw [← LB0_fix hw]
      unfold bs
      rw [hb_or, hb_and, hb_and, (hb_pr hw).mpr ⟨l, t, hg, ht0⟩, hx, hb_not (by omega), hb_b1 (by omega), decide_eq_false (fun e => c e.symm)]
      simp
    rw [this]; rfl
theorem LB_le {P : Pg} (hw : WP P) {h : Nat} (hh : h < 8) (S : Nat → Prop) (h0 : S h) (h1 : ∀ u, hb (RT P h) u = true → S u) (hs : ∀ x t, hb (RE P 8) x = true → gt P x t = true → S t → t ≠ h → S x) : ∀ i, hb (LB P h) i = true → S i := by
  have key : ∀ i, hb (LB0 P h) i = true → S i ∧ i ≠ h := by
    refine itr_inv (fun _ x => ∀ i, hb x i = true → S i ∧ i ≠ h) (n := P_n P) ?_ ?_ _ (Nat.le_refl _)
    · intro i q
      rw [hb_and, Bool.and_eq_true] at q
      refine ⟨h1 i q.1, fun e => ?_⟩
      subst e
      have := q.2
      rw [hb_not (by omega), hb_b1 (by omega)] at this
      simp at this
    · intro k s _ hS i q
      unfold bs at q
      rw [hb_or, hb_and, hb_and] at q
      simp only [Bool.or_eq_true, Bool.and_eq_true] at q
      rcases q with q | ⟨⟨q1, q2⟩, q3⟩
      · exact hS i q
      · obtain ⟨l, t, g1, g2⟩ := (hb_pr hw).mp q1
        refine ⟨hs i t q2 g1 (hS t g2).1 (hS t g2).2, fun e => ?_⟩
        subst e
        rw [hb_not (by omega), hb_b1 (by omega)] at q3
        simp at q3
  intro i q
  unfold LB at q
  rw [hb_or, hb_b1 (by omega)] at q
  simp only [Bool.or_eq_true, decide_eq_true_eq] at q
  rcases q with q | q
  · exact (key i q).1
  · subst q; exact h0
/-- the model's passes -/
def bm (P : Pg) (h x t : Nat) (s : Int32) : Int32 := if hb (RE P 8) x = true ∧ t ≠ h ∧ hb s t = true ∧ gt P x t = true then s ||| b1 x else s
def bmx (P : Pg) (h x : Nat) (s : Int32) : Int32 := itr (bm P h x) s (P_n P)
def bmp (P : Pg) (h : Nat) (s : Int32) : Int32 := itr (bmx P h) s (P_n P)
theorem bm_up {P : Pg} {h x : Nat} (t : Nat) (s : Int32) : sb s (bm P h x t s) := by
  unfold bm
  split
  · exact sb_or _ _
  · exact sb_rf _
theorem bmx_up {P : Pg} {h : Nat} (x : Nat) (s : Int32) : sb s (bmx P h x s) := itr_up (a := s) bm_up (i := 0) _ (Nat.zero_le _)
theorem bmp_up {P : Pg} {h : Nat} (s : Int32) : sb s (bmp P h s) := itr_up (a := s) bmx_up (i := 0) _ (Nat.zero_le _)
theorem bmp_lo {P : Pg} (hw : WP P) {h : Nat} {s : Int32} (hs : lo (P_n P) s) : lo (P_n P) (bmp P h s) := by
  have hn := hw.1.2
  refine itr_inv (fun _ x => lo (P_n P) x) (n := P_n P) hs (fun x s hx hs => ?_) _ (Nat.le_refl _)
  refine itr_inv (fun _ x => lo (P_n P) x) (n := P_n P) hs (fun t s _ hs => ?_) _ (Nat.le_refl _)
  unfold bm
  split
  · exact lo_or hs (lo_b1 hx (by omega))
  · exact hs
theorem m_body {P : Pg} (hw : WP P) {h : Nat} (hh : h < P_n P) : itr (fun _ => bmp P h) (RT P h ||| b1 h) (P_n P) = LB P h := by
  have hn := hw.1.2
  have hl0 : lo (P_n P) (RT P h ||| b1 h) := lo_or (RT_lo hw) (lo_b1 hh (by omega))
  have hfix : bmp P h (itr (fun _ => bmp P h) (RT P h ||| b1 h) (P_n P)) = itr (fun _ => bmp P h) (RT P h ||| b1 h) (P_n P) := itr_fix hl0 (fun s hs => bmp_lo hw hs) bmp_up
  have hup : sb (RT P h ||| b1 h) (itr (fun _ => bmp P h) (RT P h ||| b1 h) (P_n P)) := itr_up (a := RT P h ||| b1 h) (fun _ => bmp_up) (i := 0) _ (Nat.zero_le _)
  have hlo : lo (P_n P) (itr (fun _ => bmp P h) (RT P h ||| b1 h) (P_n P)) := itr_inv (fun _ x => lo (P_n P) x) (n := P_n P) hl0 (fun k x _ hs => bmp_lo hw hs) _ (Nat.le_refl _)
  have hle : ∀ i, hb (itr (fun _ => bmp P h) (RT P h ||| b1 h) (P_n P)) i = true → hb (LB P h) i = true := by
    refine itr_inv (fun _ x => ∀ i, hb x i = true → hb (LB P h) i = true) (n := P_n P) ?_ (fun _ s _ hs => ?_) _ (Nat.le_refl _)
    · intro i q
      rw [hb_or, hb_b1 (by omega)] at q
      simp only [Bool.or_eq_true, decide_eq_true_eq] at q
      rcases q with q | q
      · exact LB_ret (by omega) q
      · subst q; exact LB_h (by omega)
    · refine itr_inv (fun _ x => ∀ i, hb x i = true → hb (LB P h) i = true) (n := P_n P) hs (fun x s hx hs => ?_) _ (Nat.le_refl _)
      refine itr_inv (fun _ x => ∀ i, hb x i = true → hb (LB P h) i = true) (n := P_n P) hs (fun t s _ hs => ?_) _ (Nat.le_refl _)
      intro i q
      unfold bm at q
      split at q
      · next c =>
        rw [hb_or, hb_b1 (by omega)] at q
        simp only [Bool.or_eq_true, decide_eq_true_eq] at q
        rcases q with q | q
        · exact hs i q
        · subst q
          exact LB_cl hw (by omega) c.1 c.2.2.2 (hs t c.2.2.1) c.2.1
      · exact hs i q
  generalize itr (fun _ => bmp P h) (RT P h ||| b1 h) (P_n P) = M at hfix hup hlo hle
  refine sb_as hle (LB_le hw (by omega) (fun i => hb M i = true) ?_ ?_ ?_)
  · exact hup h (by rw [hb_or, hb_b1 (by omega)]; simp)
  · intro u hu
    exact hup u (by rw [hb_or, hu]; rfl)
  · intro x t hx hg ht hne
    have lx : x < P_n P := by
      rcases Nat.lt_or_ge x (P_n P) with c | c
      · exact c
      · rw [RE_lo hw x c] at hx; cases hx
    have lt : t < P_n P := gt_lt hw (by omega) hg
    have e1 := (itr_st (n := P_n P) (bmx_up (P := P) (h := h)) hfix lx).2
    have e2 := (itr_st (n := P_n P) (bm_up (P := P) (h := h) (x := x)) e1 lt).2
    rw [← e2]
    unfold bm
    rw [if_pos ⟨hx, hne, ht, hg⟩, hb_or, hb_b1 (by omega)]
    simp
/-- a block that isn't reached is no header -/
theorem isH_re {P : Pg} (hw : WP P) {h : Nat} (hh : h < 8) (hi : isH P h = true) : hb (RE P 8) h = true := by
  have hn := hw.1.2
  obtain ⟨u, hu⟩ := nz_iff.mp (of_decide_eq_true hi)
  obtain ⟨h1, -, h3⟩ := (hb_RT hw hh).mp hu
  exact RE_cl hw h1 h3 (by omega)
/-- every block of a loop is reached -/
theorem LB_re {P : Pg} (hw : WP P) {h : Nat} (hh : h < 8) (hi : isH P h = true) : ∀ i, hb (LB P h) i = true → hb (RE P 8) i = true :=
  LB_le hw hh (fun i => hb (RE P 8) i = true) (isH_re hw hh hi) (fun u hu => ((hb_RT hw hh).mp hu).1) (fun x t hx _ _ _ => hx)
def LC (P : Pg) : Nat := cnt (isH P) (P_n P)
def LH (P : Pg) (l : Nat) : Nat := nth (isH P) l (P_n P)
theorem LC_le {P : Pg} (hw : WP P) : LC P ≤ 8 := Nat.le_trans cnt_le hw.1.2
theorem LH_lt {P : Pg} {l : Nat} (h : l < LC P) : LH P l < P_n P := (nth_ok h).1
theorem LH_is {P : Pg} {l : Nat} (h : l < LC P) : isH P (LH P l) = true := (nth_ok h).2.1
/-- the loops as class (c, hd, bd) and model hold them -/
def LPs (σ : Mm) (n hd bd : Nat) (i : Nat) (P : Pg) : Prop := σ n i = nI (LC P) ∧ ∀ l, l < LC P → σ hd l = nI (LH P l) ∧ σ bd l = LB P (LH P l)
theorem c_loops {σ : Mm} {P : Pg} (hw : WP P) (hc : CP σ 1 4 P) : ∃ σ', fX2_find σ = some σ' ∧ Fq [94, 95, 96] σ σ' ∧ (∀ i, i ≠ 3 → σ' 94 i = σ 94 i) ∧ LPs σ' 94 95 96 3 P := by
  have hn := hw.1.2
  have key : ∃ σ', qX2_find_13 (RE P 8) FU (upm σ 94 (upd (σ 94) 3 0), 0) = some σ' ∧ (Fq [94, 95, 96] σ σ' ∧ (∀ i, i ≠ 3 → σ' 94 i = σ 94 i) ∧ LPs σ' 94 95 96 3 P) := by
    refine lp_inv2 (fun k s => Fq [94, 95, 96] σ s ∧ (∀ i, i ≠ 3 → s 94 i = σ 94 i) ∧ s 94 3 = nI (cnt (isH P) k) ∧ ∀ l, l < cnt (isH P) k → s 95 l = nI (LH P l) ∧ s 96 l = LB P (LH P l)) (P_n P) _ ?_ ?_ ?_ (fu (by omega))
    · rintro k s hk ⟨f1, f2, f3, f4⟩
      have hc1 : CP s 1 4 P := CP_fq f1 (by simp) hc
      have c1 := hc1.1
      have e1 := c_reach hw hc1 (h := k) (by omega)
      rw [show wI k = nI k from if_pos (by omega)] at e1
      have lc : cnt (isH P) k ≤ k := cnt_le
      have e0 : ∀ rec, gX2_find_13 (RE P 8) rec s (nI k) = if RT P k = 0 then rec (s, nI (k + 1)) else rec (upm (upm (upm s 95 (upd (s 95) (cnt (isH P) k) (nI k))) 96 (upd (s 96) (cnt (isH P) k) (LB P k))) 94 (upd (s 94) 3 (nI (cnt (isH P) k + 1))), nI (k + 1)) := by
        intro rec
        have hc2 : CP (upm s 95 (upd (s 95) (cnt (isH P) k) (nI k))) 1 4 P := hc1.up (by omega)
        unfold gX2_find_13
        rw [e1]
        simp (disch := omega) only [obs, bd, jn, bn2, un2, bn3, un3, bns, nI_1, nI_clamp, gN, gN0, gN1, gN2, gN3, nI_leI, nI_ltI, nI_eq, li_le, li_lt, le_li, lt_li, eq_li, li_eq, li_mul, mul_li, add_li, nI_add, m_has, c_has, hI_0, bI_0, c1, if_neg]
        rw [c_pred hw hc1 ((1 : Int32) <<< (nI k &&& 31))]
        simp only [obs]
        rw [show (RE P 8 &&& (RE P k ^^^ (-1))) &&& pr P ((1 : Int32) <<< (nI k &&& 31)) = RT P k from rfl]
        by_cases c : RT P k = 0
        · rw [if_pos c, if_pos c]
        · rw [if_neg c, if_neg c, f3]
          simp (disch := omega) only [obs, bd, jn, bn2, un2, bn3, un3, bns, nI_1, nI_clamp, gN, gN0, gN1, gN2, gN3, nI_leI, nI_ltI, nI_eq, li_le, li_lt, le_li, lt_li, eq_li, li_eq, li_mul, mul_li, add_li, nI_add, m_has, c_has, hI_0, bI_0]
          rw [c_loopBlocks hw hc2]
          simp (disch := omega) only [obs, bd, jn, bn2, un2, bn3, un3, bns, nI_1, nI_clamp, gN, gN0, gN1, gN2, gN3, nI_leI, nI_ltI, nI_eq, li_le, li_lt, le_li, lt_li, eq_li, li_eq, li_mul, mul_li, add_li, nI_add, m_has, c_has, hI_0, bI_0, upm_n, ne_eq, f3, not_false_eq_true, Nat.reduceEqDiff]
      by_cases c : RT P k = 0
      · have hi : isH P k = false := decide_eq_false (fun q => q c)
        refine ⟨s, fun rec => (e0 rec).trans (if_pos c), f1, f2, ?_, ?_⟩
        · simp only [cnt, hi]; exact f3
        · simp only [cnt, hi]; exact f4
      · have hi : isH P k = true := decide_eq_true c
        have hLH : LH P (cnt (isH P) k) = k := nth_at hk hi
        have ec : cnt (isH P) (k + 1) = cnt (isH P) k + 1 := by simp only [cnt, hi, if_true]
        refine ⟨_, fun rec => (e0 rec).trans (if_neg c), ?_, ?_, ?_, ?_⟩
        · exact ((f1.up (by simp)).up (by simp)).up (by simp)
        · intro i h3
          rw [upm_s, upd_a, if_neg h3]
          exact f2 i h3
        · rw [upm_s, upd_a, if_pos rfl, ec]
        · intro l hl
          rw [ec] at hl
          rw [upm_n (by omega), upm_n (by omega), upm_s, upm_n (by omega), upm_s, upd_a, upd_a]
          by_cases c2 : l = cnt (isH P) k
          · rw [if_pos c2, if_pos c2, c2, hLH]; exact ⟨rfl, rfl⟩
          · rw [if_neg c2, if_neg c2]; exact f4 l (by omega)
    · rintro s ⟨f1, f2, f3, f4⟩
      have c1 := (CP_fq f1 (by simp) hc).1
      refine ⟨s, fun rec => ?_, f1, f2, f3, f4⟩
      show gX2_find_13 (RE P 8) rec s (nI (P_n P)) = _
      unfold gX2_find_13
      simp (disch := omega) only [obs, bd, jn, bn2, un2, bn3, un3, bns, nI_1, nI_clamp, gN, gN0, gN1, gN2, gN3, nI_leI, nI_ltI, nI_eq, li_le, li_lt, le_li, lt_li, eq_li, li_eq, li_mul, mul_li, add_li, nI_add, m_has, c_has, hI_0, bI_0, c1, if_pos]
    · refine ⟨Fq_rf.up (by simp), ?_, ?_, ?_⟩
      · intro i h3
        rw [upm_s, upd_a, if_neg h3]
      · rw [upm_s, upd_a, if_pos rfl]; rfl
      · intro l hl; simp [cnt] at hl
  obtain ⟨σ', h1, h2⟩ := key
  refine ⟨σ', ?_, h2⟩
  unfold fX2_find
  simp only [bd]
  have e1 := c_reach hw (hc.up (k := 94) (f := upd (σ 94) 3 0) (by omega)) (h := 8) (by omega)
  rw [show wI 8 = -1 from rfl] at e1
  rw [e1]
  simp only [obs]
  rw [h1]
  rfl
