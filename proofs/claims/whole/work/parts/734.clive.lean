/-! the class's liveness -/
theorem CP_cg {σ σ' : Mm} {P : Pg} (e : ∀ k, 1 ≤ k → k ≤ 43 → σ' k = σ k) (h : CP σ 1 4 P) : CP σ' 1 4 P := by
  obtain ⟨a1, a2, a3, a4, a5, a6, a7, a8, a9, a10, a11, a12⟩ := h
  refine ⟨?_, ?_, ?_, ?_, ?_, ?_, ?_, ?_, ?_, ?_, ?_, ?_⟩
  · rw [e _ (by omega) (by omega)]; exact a1
  · intro v hv; rw [e _ (by omega) (by omega)]; exact a2 v hv
  · intro b hb; rw [e _ (by omega) (by omega)]; exact a3 b hb
  · intro b hb; rw [e _ (by omega) (by omega)]; exact a4 b hb
  · intro b hb; rw [e _ (by omega) (by omega)]; exact a5 b hb
  · intro b hb; rw [e _ (by omega) (by omega)]; exact a6 b hb
  · intro b hb; rw [e _ (by omega) (by omega)]; exact a7 b hb
  · intro b hb; rw [e _ (by omega) (by omega)]; exact a8 b hb
  · intro b hb; rw [e _ (by omega) (by omega)]; exact a9 b hb
  · intro b hb; rw [e _ (by omega) (by omega)]; exact a10 b hb
  · intro b hb; rw [e _ (by omega) (by omega)]; exact a11 b hb
  · intro b hb; rw [e _ (by omega) (by omega)]; exact a12 b hb
theorem CP.up {σ : Mm} {P : Pg} {k : Nat} {f : Nat → Int32} (h : CP σ 1 4 P) (hk : 44 ≤ k) : CP (upm σ k f) 1 4 P := CP_cg (fun j _ _ => upm_n (by omega)) h
theorem c_fill {σ : Mm} {a n : Nat} {v : Int32} (hn : n < 1000) : fJ7_fill_53178 σ a n v = some (upm σ a (fun x => if x < n then v else σ a x)) := by
  have e : qJ7_fill_53178_5 a n v (nI n) FU (σ, 0) = some (upm σ a (fun x => if x < n then v else σ a x)) := by
    refine lp_fr (fun k => (upm σ a (fun x => if x < k then v else σ a x), nI k)) n (by simp [upm_id]; rfl) ?_ ?_ (fu (by omega))
    · intro k hk rec
      show gJ7_fill_53178_5 a n v (nI n) rec (upm σ a (fun x => if x < k then v else σ a x)) (nI k) = rec (upm σ a (fun x => if x < k + 1 then v else σ a x), nI (k + 1))
      unfold gJ7_fill_53178_5
      simp (disch := omega) only [Option.bind_some, bd, jn, bn2, un2, bn3, un3, bns, nI_1, nI_clamp, gN, gN0, gN1, gN2, gN3, nI_leI, nI_ltI, nI_eq, li_le, li_lt, le_li, lt_li, eq_li, li_eq, li_mul, mul_li, add_li, nI_add, m_has, c_has, hI_0, bI_0, if_neg, upm_s, upm_u]
      congr 3
      funext x
      rw [upd_a]
      by_cases h1 : x = k
      · rw [if_pos h1, if_pos (by omega)]
      · rw [if_neg h1]
        by_cases h2 : x < k
        · rw [if_pos h2, if_pos (by omega)]
        · rw [if_neg h2, if_neg (by omega)]
    · intro rec
      show gJ7_fill_53178_5 a n v (nI n) rec (upm σ a (fun x => if x < n then v else σ a x)) (nI n) = _
      unfold gJ7_fill_53178_5
      simp (disch := omega) only [Option.bind_some, bd, jn, bn2, un2, bn3, un3, bns, nI_1, nI_clamp, gN, gN0, gN1, gN2, gN3, nI_leI, nI_ltI, nI_eq, li_le, li_lt, le_li, lt_li, eq_li, li_eq, li_mul, mul_li, add_li, nI_add, m_has, c_has, hI_0, bI_0, if_pos]
  unfold fJ7_fill_53178
  show (qJ7_fill_53178_5 a n v (nI n) FU (σ, 0)).bind _ = _
  rw [e]
  rfl
theorem hb_sc {P : Pg} (hw : WP P) {b t : Nat} (hb' : b < 8) : hb (sc P b) t = gt P b t := by
  obtain ⟨w0, -, w1, -, w2, w3, -⟩ := hw
  have h2 := w1 b hb'
  have l0 := w0.2
  unfold sc gt
  by_cases h0 : P_e P b = 2
  · simp [h0, hb_0]
  · have l1 := w2 b hb' h0
    by_cases h1 : P_e P b = 0
    · rw [if_neg h0, if_pos h1, hb_b1 (by omega)]
      simp [h1]
    · have h3 : P_e P b = 1 := by omega
      have l2 := w3 b hb' h3
      rw [if_neg h0, if_neg h1, hb_or, hb_b1 (by omega), hb_b1 (by omega)]
      simp [h3]
theorem or_rc (a b c : Int32) : (a ||| b) ||| c = (a ||| c) ||| b := hb_ext (fun i _ => by rw [hb_or, hb_or, hb_or, hb_or]; cases hb a i <;> cases hb b i <;> cases hb c i <;> rfl)
theorem or_c (a b : Int32) : a ||| b = b ||| a := hb_ext (fun i _ => by rw [hb_or, hb_or]; cases hb a i <;> cases hb b i <;> rfl)
theorem or_0l (x : Int32) : 0 ||| x = x := by rw [or_c]; exact orB0 x
def beg (F : Nat → Int32) : Nat → Int32 := fun t => F (t * 9)
def cb (P : Pg) (F : Nat → Int32) (b : Nat) : Nat → Int32 := fun x => if b * 9 ≤ x ∧ x ≤ b * 9 + P_m P b then lv P (beg F) b (x - b * 9) else F x
theorem c_findLiveIn {σ : Mm} {P : Pg} (hw : WP P) (hc : CP σ 1 4 P) {b : Nat} (hb' : b < 8) : fX1_findLiveIn σ (nI b) = some (upm σ 88 (cb P (σ 88) b)) := by
  have hn := hw.1.2
  have h8 := hw.2.1 b hb'
  have w9 := hw.2.2.2.2.2.2.2.2.1 b hb'
  have c1 := hc.1
  have c3 := hc.2.2.1
  have e1 : qX1_findLiveIn_24 σ (nI b) (4 + 5 * b) (sc P b) FU (eu P b, 0) = some (lr P (beg (σ 88)) b 0) := by
    refine lp_fr (fun k => (orF (fun t => if gt P b t then beg (σ 88) t else 0) k ||| eu P b, nI k)) (P_n P) (by show (0 ||| eu P b, _) = _; rw [or_0l]; rfl) ?_ ?_ (fu (by omega))
    · intro k hk rec
      show gX1_findLiveIn_24 σ (nI b) (4 + 5 * b) (sc P b) rec (orF _ k ||| eu P b) (nI k) = rec ((orF _ k ||| (if gt P b k then beg (σ 88) k else 0)) ||| eu P b, nI (k + 1))
      unfold gX1_findLiveIn_24 fX1_liveAtBeginning
      simp (disch := omega) only [Option.bind_some, bd, jn, bn2, un2, bn3, un3, bns, nI_1, nI_clamp, gN, gN0, gN1, gN2, gN3, nI_leI, nI_ltI, nI_eq, li_le, li_lt, le_li, lt_li, eq_li, li_eq, li_mul, mul_li, add_li, nI_add, m_has, c_has, hI_0, bI_0, c1, if_neg]
      rw [hb_sc hw hb']
      cases hg : gt P b k
      · simp [orB0]
      · simp only [Bool.true_eq_false, if_false, if_true]
        rw [or_rc]
        rfl
    · intro rec
      show gX1_findLiveIn_24 σ (nI b) (4 + 5 * b) (sc P b) rec _ (nI (P_n P)) = _
      unfold gX1_findLiveIn_24
      simp (disch := omega) only [Option.bind_some, bd, jn, bn2, un2, bn3, un3, bns, nI_1, nI_clamp, gN, gN0, gN1, gN2, gN3, nI_leI, nI_ltI, nI_eq, li_le, li_lt, le_li, lt_li, eq_li, li_eq, li_mul, mul_li, add_li, nI_add, m_has, c_has, hI_0, bI_0, c1, if_pos]
      rfl
  have e2 : qX1_findLiveIn_86 (nI b) (4 + 5 * b) FU (upm σ 88 (upd (σ 88) (b * 9 + P_m P b) (lr P (beg (σ 88)) b 0)), lr P (beg (σ 88)) b 0, nI (P_m P b) - 1) = some (upm σ 88 (cb P (σ 88) b)) := by
    refine lp_fr (fun j => (upm σ 88 (fun x => if b * 9 + (P_m P b - j) ≤ x ∧ x ≤ b * 9 + P_m P b then lv P (beg (σ 88)) b (x - b * 9) else σ 88 x), lr P (beg (σ 88)) b j, nI (P_m P b - j) - 1)) (P_m P b) ?_ ?_ ?_ (fu (by omega))
    · congr 2
      funext x
      rw [upd_a]
      by_cases h1 : x = b * 9 + P_m P b
      · rw [if_pos h1, if_pos (by omega)]
        unfold lv
        congr 1
        omega
      · rw [if_neg h1, if_neg (by omega)]
    · intro j hj rec
      have e3 : nI (P_m P b - j) - 1 = nI (P_m P b - 1 - j) := by
        rw [sub_li (c := 1) (show 1 ≤ P_m P b - j by omega)]
        congr 1
        show P_m P b - j - 1 = P_m P b - 1 - j
        omega
      have e4 : P_m P b - (j + 1) = P_m P b - 1 - j := by omega
      have l9 := w9 (P_m P b - 1 - j) (by omega)
      show gX1_findLiveIn_86 (nI b) (4 + 5 * b) rec (upm σ 88 _) (lr P (beg (σ 88)) b j) (nI (P_m P b - j) - 1) = rec (upm σ 88 (fun x => if b * 9 + (P_m P b - (j + 1)) ≤ x ∧ x ≤ b * 9 + P_m P b then lv P (beg (σ 88)) b (x - b * 9) else σ 88 x), lr P (beg (σ 88)) b (j + 1), nI (P_m P b - (j + 1)) - 1)
      generalize hf : (fun x => if b * 9 + (P_m P b - j) ≤ x ∧ x ≤ b * 9 + P_m P b then lv P (beg (σ 88)) b (x - b * 9) else σ 88 x) = f
      have hc2 : CP (upm σ 88 f) 1 4 P := hc.up (by omega)
      have c10 := hc2.2.2.2.2.2.2.2.2.2.1
      rw [e3, e4]
      unfold gX1_findLiveIn_86
      simp (disch := omega) only [Option.bind_some, bd, jn, bn2, un2, bn3, un3, bns, nI_1, nI_clamp, gN, gN0, gN1, gN2, gN3, nI_leI, nI_ltI, nI_eq, li_le, li_lt, le_li, lt_li, eq_li, li_eq, li_mul, mul_li, add_li, nI_add, m_has, c_has, hI_0, bI_0, c_usedBy hw hc2 hb', c10, if_neg, nI_ge0, upm_s, upm_u]
      rw [sub1]
      show rec (upm σ 88 (upd f (b * 9 + (P_m P b - 1 - j)) (lr P (beg (σ 88)) b (j + 1))), lr P (beg (σ 88)) b (j + 1), _) = _
      congr 3
      rw [← hf]
      funext x
      rw [upd_a]
      by_cases h1 : x = b * 9 + (P_m P b - 1 - j)
      · rw [if_pos h1, if_pos (by omega)]
        unfold lv
        congr 1
        omega
      · rw [if_neg h1]
        by_cases h2 : b * 9 + (P_m P b - j) ≤ x ∧ x ≤ b * 9 + P_m P b
        · rw [if_pos h2, if_pos (by omega)]
        · rw [if_neg h2, if_neg (by omega)]
    · intro rec
      show gX1_findLiveIn_86 (nI b) (4 + 5 * b) rec (upm σ 88 _) _ (nI (P_m P b - P_m P b) - 1) = _
      unfold gX1_findLiveIn_86
      rw [if_pos (by rw [Nat.sub_self]; decide)]
      congr 2
      funext x
      unfold cb
      rw [Nat.sub_self, Nat.add_zero]
  unfold fX1_findLiveIn
  simp (disch := omega) only [Option.bind_some, bd, jn, bn2, un2, bn3, un3, bns, nI_1, nI_clamp, gN, gN0, gN1, gN2, gN3, nI_leI, nI_ltI, nI_eq, li_le, li_lt, le_li, lt_li, eq_li, li_eq, li_mul, mul_li, add_li, nI_add, m_has, c_has, hI_0, bI_0, c_successors hw hc hb', c_usedByEnd hw hc hb', e1, c3]
  rw [upm_n (show 4 + 5 * b ≠ 88 by omega), c3 b hb', e2]
  rfl
def cps (P : Pg) (F : Nat → Int32) : Nat → Nat → Int32
  | 0 => F
  | j + 1 => cb P (cps P F j) (P_n P - 1 - j)
def cpp (P : Pg) (F : Nat → Int32) : Nat → Nat → Int32
  | 0 => F
  | k + 1 => cps P (cpp P F k) (P_n P)
theorem c_livePass {σ : Mm} {P : Pg} (hw : WP P) (hc : CP σ 1 4 P) (x : Int32) : qX1_findLive_31 x FU (σ, nI (P_n P) - 1) = some (upm σ 88 (cps P (σ 88) (P_n P))) := by
  have hn := hw.1.2
  refine lp_fr (fun j => (upm σ 88 (cps P (σ 88) j), nI (P_n P - j) - 1)) (P_n P) (by show (upm σ 88 (σ 88), _) = _; rw [upm_id]; rfl) ?_ ?_ (fu (by omega))
  · intro j hj rec
    have e3 : nI (P_n P - j) - 1 = nI (P_n P - 1 - j) := by
      rw [sub_li (c := 1) (show 1 ≤ P_n P - j by omega)]
      congr 1
      show P_n P - j - 1 = P_n P - 1 - j
      omega
    have e4 : P_n P - (j + 1) = P_n P - 1 - j := by omega
    show gX1_findLive_31 x rec (upm σ 88 (cps P (σ 88) j)) (nI (P_n P - j) - 1) = rec (upm σ 88 (cb P (cps P (σ 88) j) (P_n P - 1 - j)), nI (P_n P - (j + 1)) - 1)
    have hc2 : CP (upm σ 88 (cps P (σ 88) j)) 1 4 P := hc.up (by omega)
    have e5 := c_findLiveIn hw hc2 (b := P_n P - 1 - j) (by omega)
    rw [upm_s, upm_u] at e5
    rw [e3, e4]
    unfold gX1_findLive_31
    simp (disch := omega) only [Option.bind_some, bd, jn, bn2, un2, bn3, un3, bns, nI_1, nI_clamp, gN, gN0, gN1, gN2, gN3, nI_leI, nI_ltI, nI_eq, li_le, li_lt, le_li, lt_li, eq_li, li_eq, li_mul, mul_li, add_li, nI_add, m_has, c_has, hI_0, bI_0, e5, if_neg, nI_ge0]
    rw [sub1]
  · intro rec
    show gX1_findLive_31 x rec (upm σ 88 _) (nI (P_n P - P_n P) - 1) = _
    unfold gX1_findLive_31
    rw [if_pos (by rw [Nat.sub_self]; decide)]
def clF (P : Pg) (F : Nat → Int32) : Nat → Int32 := cpp P (fun x => if x < 72 then 0 else F x) (P_n P + 1)
theorem c_findLive {σ : Mm} {P : Pg} (hw : WP P) (hc : CP σ 1 4 P) : fX1_findLive σ = some (upm σ 88 (clF P (σ 88))) := by
  have hn := hw.1.2
  have e : qX1_findLive_10 FU (upm σ 88 (fun x => if x < 72 then 0 else σ 88 x), 0) = some (upm σ 88 (clF P (σ 88))) := by
    refine lp_fr (fun k => (upm σ 88 (cpp P (fun x => if x < 72 then 0 else σ 88 x) k), nI k)) (P_n P + 1) rfl ?_ ?_ (fu (by omega))
    · intro k hk rec
      show gX1_findLive_10 rec (upm σ 88 (cpp P (fun x => if x < 72 then 0 else σ 88 x) k)) (nI k) = rec (upm σ 88 (cps P (cpp P (fun x => if x < 72 then 0 else σ 88 x) k) (P_n P)), nI (k + 1))
      have hc2 : CP (upm σ 88 (cpp P (fun x => if x < 72 then 0 else σ 88 x) k)) 1 4 P := hc.up (by omega)
      have c1 := hc2.1
      have e5 := c_livePass hw hc2 (nI k)
      rw [upm_s, upm_u] at e5
      unfold gX1_findLive_10
      simp (disch := omega) only [Option.bind_some, bd, jn, bn2, un2, bn3, un3, bns, nI_1, nI_clamp, gN, gN0, gN1, gN2, gN3, nI_leI, nI_ltI, nI_eq, li_le, li_lt, le_li, lt_li, eq_li, li_eq, li_mul, mul_li, add_li, nI_add, m_has, c_has, hI_0, bI_0, c1, e5, if_neg]
    · intro rec
      show gX1_findLive_10 rec (upm σ 88 (cpp P (fun x => if x < 72 then 0 else σ 88 x) (P_n P + 1))) (nI (P_n P + 1)) = _
      have c1 := (hc.up (k := 88) (f := cpp P (fun x => if x < 72 then 0 else σ 88 x) (P_n P + 1)) (by omega)).1
      unfold gX1_findLive_10
      simp (disch := omega) only [Option.bind_some, bd, jn, bn2, un2, bn3, un3, bns, nI_1, nI_clamp, gN, gN0, gN1, gN2, gN3, nI_leI, nI_ltI, nI_eq, li_le, li_lt, le_li, lt_li, eq_li, li_eq, li_mul, mul_li, add_li, nI_add, m_has, c_has, hI_0, bI_0, c1, if_pos]
      rfl
  unfold fX1_findLive
  rw [c_fill (by omega)]
  show (qX1_findLive_10 FU (upm σ 88 (fun x => if x < 72 then 0 else σ 88 x), 0)).bind _ = _
  rw [e]
  rfl
theorem beg_cb {P : Pg} (hw : WP P) {F : Nat → Int32} {b : Nat} (hb' : b < 8) : beg (cb P F b) = ls P (beg F) b := by
  have h8 := hw.2.1 b hb'
  funext t
  unfold beg ls
  rw [upd_a]
  show cb P F b (t * 9) = _
  unfold cb
  by_cases h : t = b
  · subst h
    rw [if_pos (by omega), if_pos rfl, Nat.sub_self]
    rfl
  · rw [if_neg h, if_neg (by omega)]
theorem beg_cps {P : Pg} (hw : WP P) {F : Nat → Int32} {j : Nat} (hj : j ≤ P_n P) : beg (cps P F j) = ps P (fun j => P_n P - 1 - j) (beg F) j := by
  have hn := hw.1.2
  induction j with
  | zero => rfl
  | succ j ih =>
    show beg (cb P (cps P F j) (P_n P - 1 - j)) = ls P (ps P _ _ j) (P_n P - 1 - j)
    rw [beg_cb hw (by omega), ih (by omega)]
theorem beg_cpp {P : Pg} (hw : WP P) {F : Nat → Int32} {k : Nat} : beg (cpp P F k) = pp P (fun j => P_n P - 1 - j) (beg F) k := by
  induction k with
  | zero => rfl
  | succ k ih =>
    show beg (cps P (cpp P F k) (P_n P)) = ps P _ (pp P _ _ k) (P_n P)
    rw [beg_cps hw (Nat.le_refl _), ih]
theorem ps_cg {P : Pg} {o : Nat → Nat} {L L' : Nat → Int32} (h : ∀ t, t < P_n P → L t = L' t) (j : Nat) : ∀ t, t < P_n P → ps P o L j t = ps P o L' j t := fun t ht => hb_ext (fun v _ => ps_bit (fun t ht => by rw [h t ht]) j t ht)
theorem pp_cg {P : Pg} {o : Nat → Nat} {L L' : Nat → Int32} (h : ∀ t, t < P_n P → L t = L' t) (k : Nat) : ∀ t, t < P_n P → pp P o L k t = pp P o L' k t := by
  induction k with
  | zero => exact h
  | succ k ih => exact ps_cg ih _
theorem clF_at {P : Pg} (hw : WP P) {F : Nat → Int32} {b i : Nat} (hb' : b < P_n P) (hi : i ≤ P_m P b) : clF P F (b * 9 + i) = lv P (LV P) b i := by
  have hn := hw.1.2
  have h0 : ∀ t, t < P_n P → beg (fun x => if x < 72 then 0 else F x) t = (fun _ => 0) t := fun t ht => by
    show (if t * 9 < 72 then (0 : Int32) else _) = 0
    rw [if_pos (by omega)]
  have hL : ∀ t, t < P_n P → beg (cpp P (fun x => if x < 72 then 0 else F x) (P_n P)) t = LV P t := fun t ht => by
    rw [beg_cpp hw]
    exact pp_cg h0 _ t ht
  have key : ∀ j, j ≤ P_n P → ∀ c, c < P_n P → P_n P - 1 - c < j → ∀ i, i ≤ P_m P c → cps P (cpp P (fun x => if x < 72 then 0 else F x) (P_n P)) j (c * 9 + i) = lv P (LV P) c i := by
    intro j
    induction j with
    | zero => intro _ c _ h; omega
    | succ j ih =>
      intro hj c hc h i hi
      have h8 := hw.2.1 c (by omega)
      have h9 := hw.2.1 (P_n P - 1 - j) (by omega)
      show cb P (cps P (cpp P (fun x => if x < 72 then 0 else F x) (P_n P)) j) (P_n P - 1 - j) (c * 9 + i) = _
      unfold cb
      by_cases e : c = P_n P - 1 - j
      · rw [if_pos (by rw [← e]; omega), ← e, Nat.add_sub_cancel_left]
        apply lv_cg
        intro t ht
        rw [beg_cps hw (by omega), ps_cg hL j t ht]
        exact ps_in od_lt (LV_lin P) (pp_same od_lt (lin_0 (fun _ _ => rfl))) (by omega) t ht
      · rw [if_neg (by omega)]
        exact ih (by omega) c hc (by omega) i hi
  exact key (P_n P) (Nat.le_refl _) b hb' (by omega) i hi
