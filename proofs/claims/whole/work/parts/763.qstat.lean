/-! the machine with a plan: what stands still -/
def okH (P : Pg) (H : Nat → Int32) : Prop := ∀ v, v < 12 → (uV P v = false ∧ H v = -1) ∨ (uV P v = true ∧ (H v = 0 ∨ H v = 1 ∨ (H v = 2 ∧ cR P v = true)))
theorem hz_okH {P : Pg} {x : Int32} {k : Nat} : ∀ f H, okH P H → okH P (hz P x k f H) := by
  intro f
  induction f with
  | zero => intro H h; exact h
  | succ f ih =>
    intro H h
    simp only [hz]
    by_cases c : mxc (sA H 0) (RV P) 12 ≤ k
    · rw [if_pos c]; exact h
    · rw [if_neg c]
      apply ih
      obtain ⟨o1, o2⟩ := ou_sp (x := x) (show k < mxc (sA H 0) (RV P) 12 by omega)
      intro v hv
      unfold hs1
      rw [upd_a]
      by_cases q : v = ou P x k H
      · rw [if_pos q]
        have hu : uV P v = true := by
          rcases h v hv with ⟨-, e⟩ | ⟨e, -⟩
          · rw [q, o2] at e; exact absurd e (by decide)
          · exact e
        refine Or.inr ⟨hu, ?_⟩
        by_cases r : rcB P x (ou P x k H) = true
        · rw [if_pos r]
          refine Or.inr (Or.inr ⟨rfl, ?_⟩)
          unfold rcB at r
          rw [Bool.and_eq_true] at r
          rw [q]; exact r.2
        · rw [if_neg r]; exact Or.inr (Or.inl rfl)
      · rw [if_neg q]; exact h v hv
theorem HZ_okH {P : Pg} {x : Int32} {k : Nat} : okH P (HZ P x k) := hz_okH 12 _ (fun v _ => by
  unfold h0
  cases e : uV P v
  · exact Or.inl ⟨rfl, if_neg (by decide)⟩
  · exact Or.inr ⟨rfl, Or.inl (if_pos rfl)⟩)
theorem H_used {P : Pg} {H : Nat → Int32} (h : okH P H) {v : Nat} (hv : v < 12) (hu : uV P v = true) : H v = 0 ∨ H v = 1 ∨ (H v = 2 ∧ cR P v = true) := by
  rcases h v hv with ⟨e, -⟩ | ⟨-, e⟩
  · rw [hu] at e; cases e
  · exact e
/-! what is used -/
theorem u_of_us {P : Pg} {b i v : Nat} (hb' : b < P_n P) (hi : i < P_m P b) (h : hb (us P b i) v = true) : uV P v = true := by
  refine anyF_iff.mpr ⟨b, hb', ?_⟩
  have h1 := @cnt_lt (fun j => hb (us P b j) v) i (P_m P b) hi h
  have : nU P b v ≠ 0 := by unfold nU nUi; omega
  simp [this]
theorem u_of_eu {P : Pg} {b v : Nat} (hb' : b < P_n P) (h : hb (eu P b) v = true) : uV P v = true := by
  refine anyF_iff.mpr ⟨b, hb', ?_⟩
  have : nU P b v ≠ 0 := by unfold nU; rw [if_pos h]; omega
  simp [this]
theorem u_of_t {P : Pg} {b i : Nat} (hb' : b < P_n P) (hi : i < P_m P b) : uV P (P_t P b i) = true := by
  refine anyF_iff.mpr ⟨b, hb', ?_⟩
  have h1 := @cnt_lt (fun j => decide (P_t P b j = P_t P b i)) i (P_m P b) hi (decide_eq_true rfl)
  have : nD P b (P_t P b i) ≠ 0 := by unfold nD nDi; omega
  simp [this]
theorem LV_u {P : Pg} {b v : Nat} (hb' : b < P_n P) (hv : v < 12) (h : hb (LV P b) v = true) : uV P v = true := by
  have hcl : lcl P (fun _ => if uV P v = true then -1 else (-1 : Int32) ^^^ b1 v) := by
    intro c hc w q
    by_cases e : uV P v = true
    · rw [if_pos e]
      rcases Nat.lt_or_ge w 32 with r | r
      · exact hb_m1 w r
      · rw [hb_big r] at q; cases q
    · rw [if_neg e]
      rcases Nat.lt_or_ge w 32 with r | r
      · rw [hb_xor, hb_m1 w r, hb_b1 (by omega)]
        by_cases c2 : v = w
        · exfalso
          subst c2
          have key : ∀ j, j ≤ P_m P c → hb (lr P (fun _ => if uV P v = true then -1 else (-1 : Int32) ^^^ b1 v) c j) v = false := by
            intro j
            induction j with
            | zero =>
              intro _
              show hb (orF _ _ ||| eu P c) v = false
              rw [hb_or, hb_orF]
              have e1 : hb (eu P c) v = false := by
                cases z : hb (eu P c) v
                · rfl
                · exact absurd (u_of_eu hc z) e
              rw [e1, Bool.or_false]
              cases z : anyF (fun k => hb (if gt P c k = true then (if uV P v = true then -1 else (-1 : Int32) ^^^ b1 v) else 0) v) (P_n P)
              · rfl
              · obtain ⟨t, -, z2⟩ := anyF_iff.mp z
                rw [if_neg e] at z2
                split at z2
                · rw [hb_xor, hb_m1 v r, hb_b1 (by omega), decide_eq_true rfl] at z2; cases z2
                · rw [hb_0] at z2; cases z2
            | succ j ih =>
              intro hj
              show hb ((lr P _ c j &&& _) ||| us P c (P_m P c - 1 - j)) v = false
              rw [hb_or, hb_and, ih (by omega), Bool.false_and, Bool.false_or]
              cases z : hb (us P c (P_m P c - 1 - j)) v
              · rfl
              · exact absurd (u_of_us hc (by omega) z) e
          have := key (P_m P c - 0) (by omega)
          unfold lv at q
          rw [this] at q; cases q
        · rw [decide_eq_false c2]; rfl
      · rw [hb_big r] at q; cases q
  have := LV_be P _ hcl b hb' v h
  cases e : uV P v
  · rw [e] at this
    simp only [Bool.false_eq_true, if_false] at this
    rw [hb_xor, hb_m1 v (by omega), hb_b1 (by omega), decide_eq_true rfl] at this
    cases this
  · rfl
theorem lv_st {P : Pg} {L : Nat → Int32} {b i : Nat} (hi : i < P_m P b) : lv P L b i = (lv P L b (i + 1) &&& (b1 (P_t P b i) ^^^ (-1))) ||| us P b i := by
  unfold lv
  have e : P_m P b - i = (P_m P b - (i + 1)) + 1 := by omega
  rw [e]
  show _ ||| us P b (P_m P b - 1 - (P_m P b - (i + 1))) = _
  rw [show P_m P b - 1 - (P_m P b - (i + 1)) = i by omega]
theorem lv_keep {P : Pg} {L : Nat → Int32} {b i v : Nat} (hi : i < P_m P b) (ht : P_t P b i < 12) (hv : v < 12) (hn : v ≠ P_t P b i) (h : hb (lv P L b (i + 1)) v = true) : hb (lv P L b i) v = true := by
  rw [lv_st hi, hb_or, hb_and, h, hb_not (by omega), hb_b1 (by omega), decide_eq_false (fun e => hn e.symm)]
  rfl
theorem lv_us {P : Pg} {L : Nat → Int32} {b i v : Nat} (hi : i < P_m P b) (h : hb (us P b i) v = true) : hb (lv P L b i) v = true := by
  rw [lv_st hi, hb_or, h, Bool.or_true]
theorem lv_end {P : Pg} {L : Nat → Int32} {b v : Nat} (h : hb (eu P b) v = true) : hb (lv P L b (P_m P b)) v = true := by
  unfold lv
  rw [Nat.sub_self]
  show hb (orF _ _ ||| eu P b) v = true
  rw [hb_or, h, Bool.or_true]
theorem lv_to {P : Pg} {b t v : Nat} (ht : t < P_n P) (hg : gt P b t = true) (h : hb (LV P t) v = true) : hb (lv P (LV P) b (P_m P b)) v = true := by
  unfold lv
  rw [Nat.sub_self]
  show hb (orF _ _ ||| eu P b) v = true
  rw [hb_or, hb_orF, anyF_iff.mpr ⟨t, ht, by rw [hg]; exact h⟩]
  rfl
theorem eu_v {P : Pg} (hw : WP P) {b : Nat} (hb' : b < 8) (he : P_e P b ≠ 0) : hb (eu P b) (P_v P b) = true := by
  have := hw.2.2.2.1 b hb' he
  unfold eu
  rw [if_neg he, hb_b1 (by omega)]
  simp
theorem us_a {P : Pg} (hw : WP P) {b i : Nat} (hb' : b < 8) (hi : i < P_m P b) (hk : P_k P b i ≠ 0) : hb (us P b i) (va P b i) = true := by
  have l1 := (hw.2.2.2.2.2.2.2.2.2.1 b hb' i hi hk).2
  unfold us
  rw [if_neg hk]
  split
  · rw [hb_b1 (by omega)]; simp
  · rw [hb_or, hb_b1 (by omega)]; simp
theorem us_c {P : Pg} (hw : WP P) {b i : Nat} (hb' : b < 8) (hi : i < P_m P b) (hk : 2 ≤ P_k P b i) : hb (us P b i) (vc P b i) = true := by
  have l1 := (hw.2.2.2.2.2.2.2.2.2.2 b hb' i hi hk).2
  unfold us
  rw [if_neg (by omega), if_neg (by omega), hb_or, hb_b1 (k := vc P b i) (by omega)]
  simp
/-! the register where it is promoted -/
def pcs (P : Pg) (T : Nat → Nat → Int32) (b v : Nat) : Nat → Int32
  | 0 => -1
  | l + 1 => if T v l ≠ -1 ∧ hb (BD P l) b = true then T v l else pcs P T b v l
def PCO (P : Pg) (T : Nat → Nat → Int32) (b v : Nat) : Int32 := pcs P T b v (LC P)
theorem pcs_sp {P : Pg} {T : Nat → Nat → Int32} {b v : Nat} : ∀ n, (pcs P T b v n = -1 ∧ ∀ l, l < n → T v l ≠ -1 → hb (BD P l) b = false) ∨ ∃ l, l < n ∧ T v l ≠ -1 ∧ hb (BD P l) b = true ∧ pcs P T b v n = T v l := by
  intro n
  induction n with
  | zero => exact Or.inl ⟨rfl, fun l hl => by omega⟩
  | succ n ih =>
    simp only [pcs]
    by_cases c : T v n ≠ -1 ∧ hb (BD P n) b = true
    · rw [if_pos c]
      exact Or.inr ⟨n, by omega, c.1, c.2, rfl⟩
    · rw [if_neg c]
      rcases ih with ⟨h1, h2⟩ | ⟨l, h1, h2⟩
      · refine Or.inl ⟨h1, fun l hl q => ?_⟩
        rcases Nat.lt_or_ge l n with r | r
        · exact h2 l r q
        · have : l = n := by omega
          subst this
          cases e : hb (BD P l) b
          · rfl
          · exact absurd ⟨q, e⟩ c
      · exact Or.inr ⟨l, by omega, h2⟩
def SC : List Nat := [107, 108, 109, 110, 111, 112]
def SQ (σ : Mm) (P : Pg) (H : Nat → Int32) (k : Nat) (T : Nat → Nat → Int32) : Prop := CB σ P H k ∧ (∀ v, v < 12 → σ 100 v = cv (sA H 1) (RV P) v) ∧ ∀ v l, v < 12 → l < 8 → σ 101 (l * 12 + v) = T v l
def SM (τ : Mm) (P : Pg) (H : Nat → Int32) (T : Nat → Nat → Int32) : Prop := MP τ 124 1 P ∧ ML τ P ∧ LPs τ 123 137 138 17 P ∧ (∀ v, v < 12 → τ 139 v = H v) ∧ (∀ v, v < 12 → τ 140 v = cv (sA H 0) (RV P) v) ∧ (∀ v, v < 12 → τ 141 v = cv (sA H 1) (RV P) v) ∧ (∀ v l, v < 12 → l < 8 → τ 142 (8 * v + l) = T v l) ∧ τ 123 40 = 1
def OKp (P : Pg) (H : Nat → Int32) (k : Nat) (T : Nat → Nat → Int32) : Prop := WP P ∧ okH P H ∧ okT P k T ∧ okU P H T ∧ k ≤ 12
theorem SQ_fq {σ0 σ : Mm} {P : Pg} {H : Nat → Int32} {k : Nat} {T : Nat → Nat → Int32} (h : Fq SC σ0 σ) (hs : SQ σ0 P H k T) : SQ σ P H k T := by
  obtain ⟨⟨h1, h2, h3, h4, h5, h6⟩, h7, h8⟩ := hs
  have e : ∀ j, j < 107 → σ j = σ0 j := fun j hj => h j (fun q => by simp [SC] at q; omega)
  refine ⟨⟨CP_cg (fun k a b => e k (by omega)) h1, AN_cg (fun k a b => e k (by omega)) h2, ?_, fun v hv => ?_, fun v hv => ?_, fun l hl => ?_⟩, fun v hv => ?_, fun v l hv hl => ?_⟩
  · rw [e 97 (by omega)]; exact h3
  · rw [e 98 (by omega)]; exact h4 v hv
  · rw [e 99 (by omega)]; exact h5 v hv
  · rw [e 102 (by omega), e 103 (by omega)]; exact h6 l hl
  · rw [e 100 (by omega)]; exact h7 v hv
  · rw [e 101 (by omega)]; exact h8 v l hv hl
theorem SM_fr {τ0 τ : Mm} {P : Pg} {H : Nat → Int32} {T : Nat → Nat → Int32} (h : FrM τ0 τ) (hs : SM τ0 P H T) : SM τ P H T := by
  obtain ⟨h1, h2, h3, h4, h5, h6, h7, h8⟩ := hs
  have e : ∀ j, 124 ≤ j → j < 146 → τ j = τ0 j := fun j a b => h.1 j (fun q => by simp at q; omega)
  refine ⟨FrM_MP h h1, fun t ht => ?_, ⟨?_, fun l hl => ?_⟩, fun v hv => ?_, fun v hv => ?_, fun v hv => ?_, fun v l hv hl => ?_, ?_⟩
  · rw [e 135 (by omega) (by omega)]; exact h2 t ht
  · rw [h.2 17 (by omega) (by omega) (by omega)]; exact h3.1
  · rw [e 137 (by omega) (by omega), e 138 (by omega) (by omega)]; exact h3.2 l hl
  · rw [e 139 (by omega) (by omega)]; exact h4 v hv
  · rw [e 140 (by omega) (by omega)]; exact h5 v hv
  · rw [e 141 (by omega) (by omega)]; exact h6 v hv
  · rw [e 142 (by omega) (by omega)]; exact h7 v l hv hl
  · rw [h.2 40 (by omega) (by omega) (by omega)]; exact h8
theorem c_regIn {σ : Mm} {P : Pg} {H : Nat → Int32} {k : Nat} {T : Nat → Nat → Int32} (ho : OKp P H k T) (hs : SQ σ P H k T) {b v : Nat} (hb' : b < 8) (hv : v < 12) : fX5_registerIn σ (nI b) (nI v) = some (if PCO P T b v = -1 then cv (sA H 0) (RV P) v else PCO P T b v) := by
  have hw := ho.1
  have h8 := LC_le hw
  have hl' := hs.1.2.1.2.2.2
  have l3 := hl'.1
  have c5 := hs.1.2.2.2.2.1 v hv
  have e : qX5_registerIn_10 σ (nI b) (nI v) FU (cv (sA H 0) (RV P) v, 0) = some (if PCO P T b v = -1 then cv (sA H 0) (RV P) v else PCO P T b v) := by
    refine lp_fr (fun l => (if pcs P T b v l = -1 then cv (sA H 0) (RV P) v else pcs P T b v l, nI l)) (LC P) rfl ?_ ?_ (fu (by omega))
    · intro l hl rec
      show gX5_registerIn_10 σ (nI b) (nI v) rec (if pcs P T b v l = -1 then cv (sA H 0) (RV P) v else pcs P T b v l) (nI l) = rec (if pcs P T b v (l + 1) = -1 then cv (sA H 0) (RV P) v else pcs P T b v (l + 1), nI (l + 1))
      have eT := hs.2.2 v l hv (by omega)
      have es : pcs P T b v (l + 1) = if T v l ≠ -1 ∧ hb (BD P l) b = true then T v l else pcs P T b v l := rfl
      have e96 : σ 96 l = BD P l := (hl'.2 l hl).2
      unfold gX5_registerIn_10
      simp (disch := omega) only [obs, bd, jn, bn2, un2, bn3, un3, bns, nI_1, nI_clamp, gN, gN0, gN1, gN2, gN3, nI_leI, nI_ltI, nI_eq, li_le, li_lt, le_li, lt_li, eq_li, li_eq, li_mul, mul_li, add_li, nI_add, m_has, c_has, hI_0, bI_0, if_neg, l3, eT, e96]
      by_cases c : T v l = -1
      · rw [if_pos c, es.trans (if_neg (fun q => q.1 c))]
      · rw [if_neg c]
        cases e2 : hb (BD P l) b
        · rw [if_pos rfl, es.trans (if_neg (fun q => by rw [e2] at q; exact absurd q.2 (by decide)))]
        · rw [if_neg (by decide), es.trans (if_pos ⟨c, e2⟩), if_neg c]
    · intro rec
      show gX5_registerIn_10 σ (nI b) (nI v) rec _ (nI (LC P)) = _
      unfold gX5_registerIn_10
      simp (disch := omega) only [obs, bd, jn, bn2, un2, bn3, un3, bns, nI_1, nI_clamp, gN, gN0, gN1, gN2, gN3, nI_leI, nI_ltI, nI_eq, li_le, li_lt, le_li, lt_li, eq_li, li_eq, li_mul, mul_li, add_li, nI_add, m_has, c_has, hI_0, bI_0, l3, if_pos]
      rfl
  unfold fX5_registerIn
  simp (disch := omega) only [obs, bd, jn, bn2, un2, bn3, un3, bns, nI_1, nI_clamp, gN, gN0, gN1, gN2, gN3, nI_leI, nI_ltI, nI_eq, li_le, li_lt, le_li, lt_li, eq_li, li_eq, li_mul, mul_li, add_li, nI_add, m_has, c_has, hI_0, bI_0, c5]
  rw [e]
  rfl
theorem m_colOf {τ : Mm} {P : Pg} {H : Nat → Int32} {k : Nat} {T : Nat → Nat → Int32} (ho : OKp P H k T) (hs : SM τ P H T) {b v : Nat} (hb' : b < 8) (hv : v < 12) : fX10_colourOf τ (nI v) (nI b) = some (PCO P T b v) := by
  obtain ⟨hw, -, oT, oU, hk⟩ := ho
  have h8 := LC_le hw
  have hl' := hs.2.2.1
  have l3 := hl'.1
  have key : ∃ r, qX10_colourOf_2 τ (nI v) (nI b) FU 0 = some r ∧ ((r = .inr () ∧ PCO P T b v = -1) ∨ r = .inl (PCO P T b v)) := by
    refine lp_inv1e (fun j => ∀ l, l < j → T v l ≠ -1 → hb (BD P l) b = false) (LC P) _ ?_ ?_ (fun l hl => by omega) (fu (by omega))
    · intro l hl hJ
      have eT := hs.2.2.2.2.2.2.1 v l hv (by omega)
      have eN := okT_neg oT hk hv (show l < 8 by omega)
      have e138 := (hl'.2 l hl).2
      have e0 : ∀ rec, gX10_colourOf_2 τ (nI v) (nI b) rec (nI l) = if T v l = -1 then rec (nI (l + 1)) else if hb (BD P l) b = false then rec (nI (l + 1)) else some (.inl (T v l)) := by
        intro rec
        unfold gX10_colourOf_2
        simp (disch := omega) only [obs, bd, jn, bn2, un2, bn3, un3, bns, nI_1, nI_clamp, gN, gN0, gN1, gN2, gN3, nI_leI, nI_ltI, nI_eq, li_le, li_lt, le_li, lt_li, eq_li, li_eq, li_mul, mul_li, add_li, nI_add, m_has, c_has, hI_0, bI_0, if_neg, l3, eT, eN, e138]
        rfl
      by_cases c : T v l = -1
      · refine Or.inr ⟨fun rec => (e0 rec).trans (if_pos c), fun m hm q => ?_⟩
        rcases Nat.lt_or_ge m l with r | r
        · exact hJ m r q
        · have : m = l := by omega
          subst this; exact absurd c q
      · cases e2 : hb (BD P l) b
        · refine Or.inr ⟨fun rec => (e0 rec).trans ((if_neg c).trans (if_pos e2)), fun m hm q => ?_⟩
          rcases Nat.lt_or_ge m l with r | r
          · exact hJ m r q
          · have : m = l := by omega
            subst this; exact e2
        · refine Or.inl ⟨.inl (T v l), fun rec => (e0 rec).trans ((if_neg c).trans (if_neg (by rw [e2]; decide))), Or.inr ?_⟩
          rcases pcs_sp (P := P) (T := T) (b := b) (v := v) (LC P) with ⟨-, q2⟩ | ⟨m, q1, q2, q3, q4⟩
          · rw [q2 l hl c] at e2; cases e2
          · have := T_one hw oU hv q1 hl q2 c q3 e2
            subst this
            unfold PCO
            rw [q4]
    · intro hJ
      refine ⟨.inr (), fun rec => ?_, Or.inl ⟨rfl, ?_⟩⟩
      · show gX10_colourOf_2 τ (nI v) (nI b) rec (nI (LC P)) = _
        unfold gX10_colourOf_2
        simp (disch := omega) only [obs, bd, jn, bn2, un2, bn3, un3, bns, nI_1, nI_clamp, gN, gN0, gN1, gN2, gN3, nI_leI, nI_ltI, nI_eq, li_le, li_lt, le_li, lt_li, eq_li, li_eq, li_mul, mul_li, add_li, nI_add, m_has, c_has, hI_0, bI_0, l3, if_pos]
      · rcases pcs_sp (P := P) (T := T) (b := b) (v := v) (LC P) with ⟨q1, -⟩ | ⟨m, q1, q2, q3, -⟩
        · exact q1
        · rw [hJ m q1 q2] at q3; cases q3
  obtain ⟨r, e1, e2⟩ := key
  unfold fX10_colourOf
  rw [e1]
  rcases e2 with ⟨rfl, h⟩ | rfl
  · rw [h]; rfl
  · rfl
