/-! the table of promotions -/
abbrev PS : Type := (Nat → Nat → Int32) × Int32 × Nat
def wn (P : Pg) (l m : Nat) : Bool := decide (BD P l &&& (BD P m ^^^ (-1)) = 0)
theorem c_within {σ : Mm} {P : Pg} (hw : WP P) (hl : LPs σ 94 95 96 3 P) {l m : Nat} (h : l < LC P) (h2 : m < LC P) : fX2_isWithin σ (nI l) (nI m) = some (bI (wn P l m)) := by
  have h8 := LC_le hw
  have e1 := (hl.2 l h).2
  have e2 := (hl.2 m h2).2
  unfold fX2_isWithin wn
  simp (disch := omega) only [obs, bd, jn, bn2, un2, bn3, un3, bns, nI_1, nI_clamp, gN, gN0, gN1, gN2, gN3, nI_leI, nI_ltI, nI_eq, li_le, li_lt, le_li, lt_li, eq_li, li_eq, li_mul, mul_li, add_li, nI_add, m_has, c_has, hI_0, bI_0, e1, e2]
  rw [show LB P (LH P l) = BD P l from rfl, show LB P (LH P m) = BD P m from rfl]
  by_cases c : BD P l &&& (BD P m ^^^ (-1)) = 0
  · rw [if_pos c, decide_eq_true c]; rfl
  · rw [if_neg c, decide_eq_false c]; rfl
theorem m_within {σ : Mm} {P : Pg} (hw : WP P) (hl : LPs σ 123 137 138 17 P) {l m : Nat} (h : l < LC P) (h2 : m < LC P) : fX10_isWithin σ (nI l) (nI m) = some (bI (wn P l m)) := by
  have h8 := LC_le hw
  have e1 := (hl.2 l h).2
  have e2 := (hl.2 m h2).2
  unfold fX10_isWithin wn
  simp (disch := omega) only [obs, bd, jn, bn2, un2, bn3, un3, bns, nI_1, nI_clamp, gN, gN0, gN1, gN2, gN3, nI_leI, nI_ltI, nI_eq, li_le, li_lt, le_li, lt_li, eq_li, li_eq, li_mul, mul_li, add_li, nI_add, m_has, c_has, hI_0, bI_0, e1, e2]
  rw [show LB P (LH P l) = BD P l from rfl, show LB P (LH P m) = BD P m from rfl]
  by_cases c : BD P l &&& (BD P m ^^^ (-1)) = 0
  · rw [if_pos c, decide_eq_true c]; rfl
  · rw [if_neg c, decide_eq_false c]; rfl
def okT (P : Pg) (k : Nat) (T : Nat → Nat → Int32) : Prop := ∀ v l, v < 12 → l < 8 → T v l = -1 ∨ (l < LC P ∧ ∃ c, c < k ∧ T v l = nI c)
theorem okT_neg {P : Pg} {k : Nat} {T : Nat → Nat → Int32} (h : okT P k T) (hk : k ≤ 12) {v l : Nat} (hv : v < 12) (hl : l < 8) : T v l < 0 ↔ T v l = -1 := by
  rcases h v l hv hl with e | ⟨-, c, h1, e⟩
  · rw [e]; exact ⟨fun _ => rfl, fun _ => by decide⟩
  · rw [e]; exact ⟨fun q => absurd q (nI_ge0 (by omega)), fun q => absurd q (nI_ne_m1 (by omega))⟩
def elw (P : Pg) (T : Nat → Nat → Int32) (v l : Nat) : Bool := anyF (fun m => !decide (T v m = -1) && (wn P m l || wn P l m)) (LC P)
theorem c_elw {σ : Mm} {P : Pg} {T : Nat → Nat → Int32} (hw : WP P) (hl' : LPs σ 94 95 96 3 P) (hT : ∀ v l, v < 12 → l < 8 → σ 101 (l * 12 + v) = T v l) {v l : Nat} (hv : v < 12) (hl : l < LC P) : fX5_isPromotedAround σ (nI v) (nI l) = some (bI (elw P T v l)) := by
  have h8 := LC_le hw
  have l3 := hl'.1
  have key : ∃ r, qX5_isPromotedAround_2 σ (nI v) (nI l) FU 0 = some r ∧ ((elw P T v l = true ∧ r = .inl 1) ∨ (elw P T v l = false ∧ r = .inr ())) := by
    refine lp_inv1e (fun k => anyF (fun m => !decide (T v m = -1) && (wn P m l || wn P l m)) k = false) (LC P) _ ?_ ?_ rfl (fu (by omega))
    · intro k hk hJ
      have eT := hT v k hv (by omega)
      have e0 : ∀ rec, gX5_isPromotedAround_2 σ (nI v) (nI l) rec (nI k) = if (!decide (T v k = -1) && (wn P k l || wn P l k)) = true then some (.inl 1) else rec (nI (k + 1)) := by
        intro rec
        unfold gX5_isPromotedAround_2
        simp (disch := omega) only [obs, bd, jn, bn2, un2, bn3, un3, bns, nI_1, nI_clamp, gN, gN0, gN1, gN2, gN3, nI_leI, nI_ltI, nI_eq, li_le, li_lt, le_li, lt_li, eq_li, li_eq, li_mul, mul_li, add_li, nI_add, m_has, c_has, hI_0, bI_0, if_neg, l3, eT, c_within hw hl' hk hl, c_within hw hl' hl hk]
        by_cases c : T v k = -1
        · simp [c]
        · cases wn P k l <;> cases wn P l k <;> simp [c]
      by_cases c : (!decide (T v k = -1) && (wn P k l || wn P l k)) = true
      · exact Or.inl ⟨.inl 1, fun rec => (e0 rec).trans (if_pos c), Or.inl ⟨anyF_iff.mpr ⟨k, hk, c⟩, rfl⟩⟩
      · refine Or.inr ⟨fun rec => (e0 rec).trans (if_neg c), ?_⟩
        simp only [anyF]
        rw [hJ, Bool.eq_false_iff.mpr c]
        rfl
    · intro hJ
      refine ⟨.inr (), fun rec => ?_, Or.inr ⟨hJ, rfl⟩⟩
      show gX5_isPromotedAround_2 σ (nI v) (nI l) rec (nI (LC P)) = _
      unfold gX5_isPromotedAround_2
      simp (disch := omega) only [obs, bd, jn, bn2, un2, bn3, un3, bns, nI_1, nI_clamp, gN, gN0, gN1, gN2, gN3, nI_leI, nI_ltI, nI_eq, li_le, li_lt, le_li, lt_li, eq_li, li_eq, li_mul, mul_li, add_li, nI_add, m_has, c_has, hI_0, bI_0, l3, if_pos]
  obtain ⟨r, e1, e2⟩ := key
  unfold fX5_isPromotedAround
  rw [e1]
  rcases e2 with ⟨h1, rfl⟩ | ⟨h1, rfl⟩
  · rw [h1]; rfl
  · rw [h1]; rfl
theorem bI_o0 {x : Bool} : bI x ||| 0 = bI x := by cases x <;> decide
theorem bI_o1 {x : Bool} : bI x ||| 1 = bI true := by cases x <;> decide
theorem m_elw {σ : Mm} {P : Pg} {k : Nat} {T : Nat → Nat → Int32} (hw : WP P) (hk : k ≤ 12) (hl' : LPs σ 123 137 138 17 P) (ho : okT P k T) (hT : ∀ v l, v < 12 → l < 8 → σ 142 (8 * v + l) = T v l) {v l : Nat} (hv : v < 12) (hl : l < LC P) : qX10_promotes_35 σ (nI l) (nI v) FU (0, 0) = some (bI (elw P T v l)) := by
  have h8 := LC_le hw
  have l3 := hl'.1
  refine lp_fr (fun j => (bI (anyF (fun m => !decide (T v m = -1) && (wn P m l || wn P l m)) j), nI j)) (LC P) rfl ?_ ?_ (fu (by omega))
  · intro j hj rec
    show gX10_promotes_35 σ (nI l) (nI v) rec (bI (anyF _ j)) (nI j) = rec (bI (anyF _ j || (!decide (T v j = -1) && (wn P j l || wn P l j))), nI (j + 1))
    have eT := hT v j hv (by omega)
    have eN := okT_neg ho hk hv (show j < 8 by omega)
    unfold gX10_promotes_35
    simp (disch := omega) only [obs, bd, jn, bn2, un2, bn3, un3, bns, nI_1, nI_clamp, gN, gN0, gN1, gN2, gN3, nI_leI, nI_ltI, nI_eq, li_le, li_lt, le_li, lt_li, eq_li, li_eq, li_mul, mul_li, add_li, nI_add, m_has, c_has, hI_0, bI_0, if_neg, l3, eT, eN, m_within hw hl' hj hl, m_within hw hl' hl hj]
    simp only [bI_o0, bI_o1]
    by_cases c : T v j = -1
    · simp [c]
    · cases wn P j l <;> cases wn P l j <;> simp [c]
  · intro rec
    show gX10_promotes_35 σ (nI l) (nI v) rec _ (nI (LC P)) = _
    unfold gX10_promotes_35
    simp (disch := omega) only [obs, bd, jn, bn2, un2, bn3, un3, bns, nI_1, nI_clamp, gN, gN0, gN1, gN2, gN3, nI_leI, nI_ltI, nI_eq, li_le, li_lt, le_li, lt_li, eq_li, li_eq, li_mul, mul_li, add_li, nI_add, m_has, c_has, hI_0, bI_0, l3, if_pos]
    rfl
def pcl (P : Pg) (T : Nat → Nat → Int32) (l u : Nat) : Int32 := orF (fun m => if T u m = -1 ∨ BD P m &&& BD P l = 0 then 0 else 1 <<< (T u m &&& 31)) (LC P)
def ctk (P : Pg) (H : Nat → Int32) (T : Nat → Nat → Int32) (l u : Nat) : Int32 := (if H u = 0 then b1 (CG (sA H 0) (RV P) u) else 0) ||| pcl P T l u
def tkn (P : Pg) (H : Nat → Int32) (T : Nat → Nat → Int32) (l : Nat) : Int32 := orF (fun u => if hb (pI P (BD P l)) u = true then ctk P H T l u else 0) 12
theorem lo_tkn {P : Pg} {k : Nat} {H : Nat → Int32} {T : Nat → Nat → Int32} {l : Nat} (hw : WP P) (hk : k ≤ 12) (ho : okT P k T) : lo 12 (tkn P H T l) := by
  have h8 := LC_le hw
  refine lo_orF (fun u hu => ?_)
  split
  · refine lo_or ?_ (lo_orF (fun m hm => ?_))
    · split
      · have := @CG_le (sA H 0) (RV P) u hu
        exact lo_b1 (by omega) (by omega)
      · exact lo_0 12
    · split
      · exact lo_0 12
      · next c =>
        rcases ho u m hu (by omega) with e | ⟨-, d, h1, e⟩
        · exact absurd (Or.inl e) c
        · rw [e]
          exact lo_b1 (k := d) (by omega) (by omega)
  · exact lo_0 12
theorem c_tkn {σ : Mm} {P : Pg} {H : Nat → Int32} {T : Nat → Nat → Int32} (hw : WP P) (hl' : LPs σ 94 95 96 3 P) (hT : ∀ v l, v < 12 → l < 8 → σ 101 (l * 12 + v) = T v l) (hH : ∀ v, v < 12 → σ 98 v = H v) (hC : ∀ v, v < 12 → σ 99 v = cv (sA H 0) (RV P) v) {l : Nat} (hl : l < LC P) (hp : σ 102 l = pI P (BD P l)) : fX5_coloursTakenIn σ (nI l) = some (tkn P H T l) := by
  have h8 := LC_le hw
  have l3 := hl'.1
  have e96 := (hl'.2 l hl).2
  have e1 : ∀ u x, u < 12 → qX5_coloursOf_25 σ (nI u) (BD P l) FU (x, 0) = some (x ||| pcl P T l u) := by
    intro u x hu
    refine lp_fr (fun m => (x ||| orF (fun m => if T u m = -1 ∨ BD P m &&& BD P l = 0 then 0 else 1 <<< (T u m &&& 31)) m, nI m)) (LC P) (by show (x ||| 0, _) = _; rw [orB0]; rfl) ?_ ?_ (fu (by omega))
    · intro m hm rec
      show gX5_coloursOf_25 σ (nI u) (BD P l) rec (x ||| orF _ m) (nI m) = rec (x ||| (orF _ m ||| _), nI (m + 1))
      have eT := hT u m hu (by omega)
      have em := (hl'.2 m hm).2
      unfold gX5_coloursOf_25
      simp (disch := omega) only [obs, bd, jn, bn2, un2, bn3, un3, bns, nI_1, nI_clamp, gN, gN0, gN1, gN2, gN3, nI_leI, nI_ltI, nI_eq, li_le, li_lt, le_li, lt_li, eq_li, li_eq, li_mul, mul_li, add_li, nI_add, m_has, c_has, hI_0, bI_0, if_neg, l3, eT, em]
      rw [show LB P (LH P m) = BD P m from rfl, ← or_a]
      by_cases c : T u m = -1
      · simp [c, orB0]
      · by_cases c2 : BD P m &&& BD P l = 0
        · simp [c, c2, orB0]
        · simp [c, c2]
    · intro rec
      show gX5_coloursOf_25 σ (nI u) (BD P l) rec _ (nI (LC P)) = _
      unfold gX5_coloursOf_25
      simp (disch := omega) only [obs, bd, jn, bn2, un2, bn3, un3, bns, nI_1, nI_clamp, gN, gN0, gN1, gN2, gN3, nI_leI, nI_ltI, nI_eq, li_le, li_lt, le_li, lt_li, eq_li, li_eq, li_mul, mul_li, add_li, nI_add, m_has, c_has, hI_0, bI_0, l3, if_pos]
      rfl
  have e2 : ∀ u, u < 12 → fX5_coloursOf σ (nI u) (BD P l) = some (ctk P H T l u) := by
    intro u hu
    have hc := hC u hu
    unfold fX5_coloursOf ctk
    simp (disch := omega) only [obs, bd, jn, bn2, un2, bn3, un3, bns, nI_1, nI_clamp, gN, gN0, gN1, gN2, gN3, nI_leI, nI_ltI, nI_eq, li_le, li_lt, le_li, lt_li, eq_li, li_eq, li_mul, mul_li, add_li, nI_add, m_has, c_has, hI_0, bI_0, hH u hu, e1]
    by_cases c : H u = 0
    · have hS : sA H 0 u = true := decide_eq_true c
      rw [if_pos c, if_pos c, hc]
      unfold cv
      rw [if_pos hS]
      rfl
    · rw [if_neg c, if_neg c]
  have e3 : qX5_coloursTakenIn_4 σ (nI l) FU (0, 0) = some (tkn P H T l) := by
    refine lp_fr (fun u => (orF (fun u => if hb (pI P (BD P l)) u = true then ctk P H T l u else 0) u, nI u)) 12 rfl ?_ ?_ (fu (by omega))
    · intro u hu rec
      show gX5_coloursTakenIn_4 σ (nI l) rec (orF _ u) (nI u) = rec (orF _ u ||| _, nI (u + 1))
      unfold gX5_coloursTakenIn_4
      simp (disch := omega) only [obs, bd, jn, bn2, un2, bn3, un3, bns, nI_1, nI_clamp, gN, gN0, gN1, gN2, gN3, nI_leI, nI_ltI, nI_eq, li_le, li_lt, le_li, lt_li, eq_li, li_eq, li_mul, mul_li, add_li, nI_add, m_has, c_has, hI_0, bI_0, if_neg, hp, e96]
      rw [show LB P (LH P l) = BD P l from rfl, e2 u hu]
      simp only [obs]
      cases hb (pI P (BD P l)) u <;> simp [orB0]
    · intro rec
      show gX5_coloursTakenIn_4 σ (nI l) rec _ (nI 12) = _
      unfold gX5_coloursTakenIn_4
      simp (disch := omega) only [obs, bd, jn, bn2, un2, bn3, un3, bns, nI_1, nI_clamp, gN, gN0, gN1, gN2, gN3, nI_leI, nI_ltI, nI_eq, li_le, li_lt, le_li, lt_li, eq_li, li_eq, li_mul, mul_li, add_li, nI_add, m_has, c_has, hI_0, bI_0, if_pos]
      rfl
  unfold fX5_coloursTakenIn
  rw [e3]
  rfl
theorem m_low3 {σ : Mm} {x : Int32} (h : lo 12 x) : qX10_colourIn_137 σ x FU 0 = some (nI (lm x)) := m_low2 (σ := σ) h
theorem m_tkn {σ : Mm} {P : Pg} {k : Nat} {H : Nat → Int32} {T : Nat → Nat → Int32} (hw : WP P) (hm : MP σ 124 1 P) (hL : ML σ P) (hk : k ≤ 12) (hl' : LPs σ 123 137 138 17 P) (ho : okT P k T) (hT : ∀ v l, v < 12 → l < 8 → σ 142 (8 * v + l) = T v l) (hH : ∀ v, v < 12 → σ 139 v = H v) (hC : ∀ v, v < 12 → σ 140 v = cv (sA H 0) (RV P) v) (h20 : σ 123 20 = nI k) {l v : Nat} (hl : l < LC P) : fX10_colourIn σ (nI v) (nI l) = some (if lm (tkn P H T l) < k then nI (lm (tkn P H T l)) else -1) := by
  have h8 := LC_le hw
  have l3 := hl'.1
  have e138 := (hl'.2 l hl).2
  have e1 : ∀ u x y, u < 12 → qX10_colourIn_62 σ (nI l) y (nI u) FU (x, 0) = some (x ||| pcl P T l u) := by
    intro u x y hu
    refine lp_fr (fun m => (x ||| orF (fun m => if T u m = -1 ∨ BD P m &&& BD P l = 0 then 0 else 1 <<< (T u m &&& 31)) m, nI m)) (LC P) (by show (x ||| 0, _) = _; rw [orB0]; rfl) ?_ ?_ (fu (by omega))
    · intro m hm rec
      show gX10_colourIn_62 σ (nI l) y (nI u) rec (x ||| orF _ m) (nI m) = rec (x ||| (orF _ m ||| _), nI (m + 1))
      have eT := hT u m hu (by omega)
      have em := (hl'.2 m hm).2
      have eN := okT_neg ho hk hu (show m < 8 by omega)
      unfold gX10_colourIn_62
      simp (disch := omega) only [obs, bd, jn, bn2, un2, bn3, un3, bns, nI_1, nI_clamp, gN, gN0, gN1, gN2, gN3, nI_leI, nI_ltI, nI_eq, li_le, li_lt, le_li, lt_li, eq_li, li_eq, li_mul, mul_li, add_li, nI_add, m_has, c_has, hI_0, bI_0, if_neg, l3, eT, eN, em, e138]
      rw [show LB P (LH P m) = BD P m from rfl, show LB P (LH P l) = BD P l from rfl, ← or_a]
      by_cases c : T u m = -1
      · simp [c, orB0]
      · by_cases c2 : BD P m &&& BD P l = 0
        · simp [c, c2, orB0]
        · simp [c, c2]
    · intro rec
      show gX10_colourIn_62 σ (nI l) y (nI u) rec _ (nI (LC P)) = _
      unfold gX10_colourIn_62
      simp (disch := omega) only [obs, bd, jn, bn2, un2, bn3, un3, bns, nI_1, nI_clamp, gN, gN0, gN1, gN2, gN3, nI_leI, nI_ltI, nI_eq, li_le, li_lt, le_li, lt_li, eq_li, li_eq, li_mul, mul_li, add_li, nI_add, m_has, c_has, hI_0, bI_0, l3, if_pos]
      rfl
  have e3 : qX10_colourIn_17 σ (nI l) (pI P (BD P l)) FU (0, 0) = some (tkn P H T l) := by
    refine lp_fr (fun u => (orF (fun u => if hb (pI P (BD P l)) u = true then ctk P H T l u else 0) u, nI u)) 12 rfl ?_ ?_ (fu (by omega))
    · intro u hu rec
      show gX10_colourIn_17 σ (nI l) (pI P (BD P l)) rec (orF _ u) (nI u) = rec (orF _ u ||| _, nI (u + 1))
      have hc := hC u hu
      unfold gX10_colourIn_17 ctk
      simp (disch := omega) only [obs, bd, jn, bn2, un2, bn3, un3, bns, nI_1, nI_clamp, gN, gN0, gN1, gN2, gN3, nI_leI, nI_ltI, nI_eq, li_le, li_lt, le_li, lt_li, eq_li, li_eq, li_mul, mul_li, add_li, nI_add, m_has, c_has, hI_0, bI_0, if_neg, hH u hu, e1]
      cases hb (pI P (BD P l)) u
      · simp [orB0]
      · simp only [Bool.true_eq_false, if_false, if_true]
        by_cases c : H u = 0
        · have hS : sA H 0 u = true := decide_eq_true c
          rw [if_pos c, if_pos c, hc, or_a]
          unfold cv
          rw [if_pos hS]
          rfl
        · rw [if_neg c, if_neg c, or_0l]
    · intro rec
      show gX10_colourIn_17 σ (nI l) _ rec _ (nI 12) = _
      unfold gX10_colourIn_17
      simp (disch := omega) only [obs, bd, jn, bn2, un2, bn3, un3, bns, nI_1, nI_clamp, gN, gN0, gN1, gN2, gN3, nI_leI, nI_ltI, nI_eq, li_le, li_lt, le_li, lt_li, eq_li, li_eq, li_mul, mul_li, add_li, nI_add, m_has, c_has, hI_0, bI_0, if_pos]
      rfl
  have hlo := lo_tkn (H := H) (l := l) hw hk ho
  have hle := (lm_sp hlo).1
  unfold fX10_colourIn
  simp (disch := omega) only [obs, bd, jn, bn2, un2, bn3, un3, bns, nI_1, nI_clamp, gN, gN0, gN1, gN2, gN3, nI_leI, nI_ltI, nI_eq, li_le, li_lt, le_li, lt_li, eq_li, li_eq, li_mul, mul_li, add_li, nI_add, m_has, c_has, hI_0, bI_0, e138, m_presentIn hw hm hL]
  rw [show LB P (LH P l) = BD P l from rfl, e3]
  simp only [obs]
  rw [m_low3 hlo]
  simp (disch := omega) only [obs, bd, jn, bn2, un2, bn3, un3, bns, nI_1, nI_clamp, gN, gN0, gN1, gN2, gN3, nI_leI, nI_ltI, nI_eq, li_le, li_lt, le_li, lt_li, eq_li, li_eq, li_mul, mul_li, add_li, nI_add, m_has, c_has, hI_0, bI_0, h20]
  by_cases c : lm (tkn P H T l) < k
  · rw [if_pos c, if_neg (by omega)]
  · rw [if_neg c, if_pos (by omega)]
/-! one step -/
def upT (T : Nat → Nat → Int32) (v l : Nat) (c : Int32) : Nat → Nat → Int32 := fun v' l' => if v' = v ∧ l' = l then c else T v' l'
def ps1 (P : Pg) (H : Nat → Int32) (k l v : Nat) (st : PS) : PS := if H v = 1 ∧ 0 < gn P l v ∧ elw P st.1 v l = false ∧ lm (tkn P H st.1 l) < k then (upT st.1 v l (nI (lm (tkn P H st.1 l))), st.2.1 + gn P l v, st.2.2 + 1) else st
def CT (σ : Mm) (st : PS) : Prop := (∀ v l, v < 12 → l < 8 → σ 101 (l * 12 + v) = st.1 v l) ∧ σ 97 11 = st.2.1 ∧ σ 97 10 = nI st.2.2
def MT (σ : Mm) (st : PS) : Prop := (∀ v l, v < 12 → l < 8 → σ 142 (8 * v + l) = st.1 v l) ∧ σ 123 22 = st.2.1
theorem ps1_ok {P : Pg} {H : Nat → Int32} {k l v : Nat} {st : PS} (hl : l < LC P) (ho : okT P k st.1) : okT P k (ps1 P H k l v st).1 := by
  unfold ps1
  split
  · next c =>
    intro v' l' hv hl'
    show upT st.1 v l _ v' l' = -1 ∨ (l' < LC P ∧ ∃ c, c < k ∧ upT st.1 v l _ v' l' = nI c)
    unfold upT
    by_cases q : v' = v ∧ l' = l
    · rw [if_pos q]
      exact Or.inr ⟨by omega, _, c.2.2.2, rfl⟩
    · rw [if_neg q]
      exact ho v' l' hv hl'
  · exact ho
theorem c_ps1 {σ : Mm} {P : Pg} {k : Nat} {H : Nat → Int32} {st : PS} (hw : WP P) (hc : CP σ 1 4 P) (ha : AN σ P) (hk : k ≤ 12) (h9 : σ 97 9 = nI k) (hH : ∀ v, v < 12 → σ 98 v = H v) (hC : ∀ v, v < 12 → σ 99 v = cv (sA H 0) (RV P) v) (hs : ∀ l, l < LC P → σ 102 l = pI P (BD P l) ∧ σ 103 l = tI P (BD P l)) (ho : okT P k st.1) (hT : CT σ st) {l v : Nat} (hl : l < LC P) (hv : v < 12) (h1 : H v = 1) : ∃ σ', fX5_promoteIfGainful σ (nI v) (nI l) = some σ' ∧ Fq [97, 101] σ σ' ∧ (∀ i, i ≠ 10 → i ≠ 11 → σ' 97 i = σ 97 i) ∧ CT σ' (ps1 P H k l v st) := by
  have h8 := LC_le hw
  have hlo := lo_tkn (H := H) (l := l) hw hk ho
  have hle := (lm_sp hlo).1
  unfold fX5_promoteIfGainful ps1
  rw [c_gain hw hc ha (fun l hl => (hs l hl).2) hl hv, c_elw hw ha.2.2.2 hT.1 hv hl, c_tkn hw ha.2.2.2 hT.1 hH hC hl (hs l hl).1]
  simp only [obs]
  rw [c_lowest hlo]
  simp (disch := omega) only [obs, bd, jn, bn2, un2, bn3, un3, bns, nI_1, nI_clamp, gN, gN0, gN1, gN2, gN3, nI_leI, nI_ltI, nI_eq, li_le, li_lt, le_li, lt_li, eq_li, li_eq, li_mul, mul_li, add_li, nI_add, m_has, c_has, hI_0, bI_0, h9]
  by_cases c1 : gn P l v ≤ 0
  · rw [if_pos c1, if_neg (fun q => Int32.not_le.mpr q.2.1 c1)]
    exact ⟨σ, rfl, Fq_rf, fun _ _ _ => rfl, hT⟩
  · rw [if_neg c1]
    by_cases c2 : elw P st.1 v l = false
    · rw [if_pos c2]
      by_cases c3 : lm (tkn P H st.1 l) < k
      · rw [if_neg (show ¬ k ≤ lm (tkn P H st.1 l) by omega), if_pos ⟨h1, Int32.not_le.mp c1, c2, c3⟩]
        refine ⟨_, rfl, ((Fq_rf.up (by simp)).up (by simp)).up (by simp), fun i hi hi2 => ?_, fun v' l' hv' hl' => ?_, ?_, ?_⟩
        · rw [upm_s, upd_a, if_neg hi2, upm_s, upd_a, if_neg hi, upm_n (by omega)]
        · rw [upm_n (by omega), upm_n (by omega), upm_s, upd_a]
          show _ = upT st.1 v l _ v' l'
          unfold upT
          by_cases q : v' = v ∧ l' = l
          · rw [if_pos q, if_pos (by omega)]
          · rw [if_neg q, if_neg (by omega)]
            exact hT.1 v' l' hv' hl'
        · rw [upm_s, upd_a, if_pos rfl, upm_s, upd_a, if_neg (by omega), upm_n (by omega), hT.2.1]
        · rw [upm_s, upd_a, if_neg (by omega), upm_s, upd_a, if_pos rfl, upm_n (by omega), hT.2.2, nI_1]
      · rw [if_pos (show k ≤ lm (tkn P H st.1 l) by omega), if_neg (fun q => c3 q.2.2.2)]
        exact ⟨σ, rfl, Fq_rf, fun _ _ _ => rfl, hT⟩
    · rw [if_neg c2, if_neg (fun q => c2 q.2.2.1)]
      exact ⟨σ, rfl, Fq_rf, fun _ _ _ => rfl, hT⟩
