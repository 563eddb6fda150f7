/-! THE STATIC WORLD: all cells that class, model and law hold, at places 0..; a cell's whole numbers are a function of the memory. -/
abbrev CL : List vw_C := [(RX0, TX0, 10), (RX1, TX1, 7), (RX2, TX2, 4), (RX4, TX4, 9), (RX5, TX5, 13), (RX6, TX6, 14), (RX7, TX7, 3), (RX8, TX8, 5), (RX9, TX9, 14), (RX10, TX10, 66)]
abbrev Mm : Type := Nat → Nat → Int32
abbrev sh_T : Type := Nat × Nat × Nat × List Nat
def upm (σ : Mm) (k : Nat) (f : Nat → Int32) : Mm := fun j => if j = k then f else σ j
theorem upm_s {σ : Mm} {k : Nat} {f : Nat → Int32} : upm σ k f k = f := if_pos rfl
theorem upm_n {σ : Mm} {k j : Nat} {f : Nat → Int32} (h : j ≠ k) : upm σ k f j = σ j := if_neg h
def TY (cA : Nat → ClassId) : List (ClassId × FieldType) := [(cA 0, .int), (cA 1, .char), (cA 2, .object RX0), (cA 3, .long)]
def fval (ad : Nat → Nat) (f : Nat → Int32) (rs : List Nat) (j : Nat) : Value := match rs.getD j 0 with
  | 0 => .int (f j)
  | r + 1 => .ref (ad r)
def sE (cA : Nat → ClassId) (ad : Nat → Nat) (f : Nat → Int32) (e : sh_T) : va_E := match e.1 with
  | 0 => .inl (cA e.2.1, e.2.2.1, .inl f)
  | 1 => .inr (e.2.1, (List.range e.2.2.1).map (fval ad f e.2.2.2))
  | 2 => .inl (cA e.2.1, e.2.2.1, .inr (.inr (.inr (.inr (fun i => some (ad (e.2.2.2.getD i 0)))))))
  | _ => .inl (cA e.2.1, e.2.2.1, .inr (.inl (fun i => (f i).toInt64)))
def WSg (sh : List sh_T) (cA : Nat → ClassId) (ad : Nat → Nat) (σ : Mm) : va_W := sh.zipIdx.map (fun x => (ad x.2, sE cA ad (σ x.2) x.1))
theorem WSg_at {sh : List sh_T} {cA : Nat → ClassId} {ad : Nat → Nat} {σ : Mm} {k : Nat} {e : sh_T} (h : sh[k]? = some e) : (WSg sh cA ad σ)[k]? = some (ad k, sE cA ad (σ k) e) := by
  unfold WSg
  rw [List.getElem?_map, List.getElem?_zipIdx, h]
  simp
theorem WSg_of {sh : List sh_T} {cA : Nat → ClassId} {ad : Nat → Nat} {σ : Mm} {k : Nat} {q : Nat × va_E} (h : (WSg sh cA ad σ)[k]? = some q) : ∃ e, sh[k]? = some e ∧ q = (ad k, sE cA ad (σ k) e) := by
  unfold WSg at h
  rw [List.getElem?_map, List.getElem?_zipIdx] at h
  cases hs : sh[k]? with
  | none => rw [hs] at h; simp at h
  | some e =>
    rw [hs] at h
    simp at h
    exact ⟨e, rfl, h.symm⟩
theorem WSg_none {sh : List sh_T} {cA : Nat → ClassId} {ad : Nat → Nat} {σ : Mm} {k : Nat} (h : sh[k]? = none) : (WSg sh cA ad σ)[k]? = none := by
  rcases hq : (WSg sh cA ad σ)[k]? with _ | q
  · rfl
  · obtain ⟨e, g, -⟩ := WSg_of hq
    rw [h] at g
    cases g
theorem WSg_set {sh : List sh_T} {cA : Nat → ClassId} {ad : Nat → Nat} {σ : Mm} {k : Nat} {e : sh_T} (h : sh[k]? = some e) (f : Nat → Int32) : (WSg sh cA ad σ).set k (ad k, sE cA ad f e) = WSg sh cA ad (upm σ k f) := by
  apply List.ext_getElem?
  intro j
  have hk : k < (WSg sh cA ad σ).length := by
    unfold WSg
    rw [List.length_map, List.length_zipIdx]
    exact (List.getElem?_eq_some_iff.mp h).1
  rw [List.getElem?_set]
  by_cases hj : k = j
  · subst hj
    rw [if_pos rfl, if_pos hk, WSg_at h, upm_s]
  · rw [if_neg hj]
    cases hs : sh[j]? with
    | none => rw [WSg_none hs, WSg_none hs]
    | some e2 => rw [WSg_at hs, WSg_at hs, upm_n (fun q => hj q.symm)]
theorem WSg_D {sh : List sh_T} {cA : Nat → ClassId} {ad : Nat → Nat} {A : Nat → Prop} (σ : Mm) (h1 : ∀ i j, i < sh.length → j < sh.length → ad i = ad j → i = j) (h2 : ∀ i, i < sh.length → A (ad i)) : va_D A (WSg sh cA ad σ) := by
  refine ⟨fun i j p q hp hq e => ?_, fun k q hq => ?_⟩
  · obtain ⟨e1, g1, rfl⟩ := WSg_of hp
    obtain ⟨e2, g2, rfl⟩ := WSg_of hq
    exact h1 i j (List.getElem?_eq_some_iff.mp g1).1 (List.getElem?_eq_some_iff.mp g2).1 e
  · obtain ⟨e1, g1, rfl⟩ := WSg_of hq
    exact h2 k (List.getElem?_eq_some_iff.mp g1).1
theorem fs_at {ad : Nat → Nat} {f : Nat → Int32} {rs : List Nat} {n j : Nat} (hj : j < n) : ((List.range n).map (fval ad f rs))[j]? = some (fval ad f rs j) := by
  rw [List.getElem?_map, List.getElem?_range hj]
  rfl
theorem fval_i {ad : Nat → Nat} {f : Nat → Int32} {rs : List Nat} {j : Nat} (h : rs.getD j 0 = 0) : fval ad f rs j = .int (f j) := by unfold fval; rw [h]
theorem fval_r {ad : Nat → Nat} {f : Nat → Int32} {rs : List Nat} {j r : Nat} (h : rs.getD j 0 = r + 1) : fval ad f rs j = .ref (ad r) := by unfold fval; rw [h]
theorem fs_set {ad : Nat → Nat} {f : Nat → Int32} {rs : List Nat} {n j : Nat} (x : Int32) (hj : j < n) (h : rs.getD j 0 = 0) : ((List.range n).map (fval ad f rs)).set j (.int x) = (List.range n).map (fval ad (upd f j x) rs) := by
  apply List.ext_getElem?
  intro i
  rw [List.getElem?_set]
  by_cases hi : j = i
  · subst hi
    rw [if_pos rfl, if_pos (by simpa using hj), fs_at hj, fval_i h, pk_us]
  · rw [if_neg hi]
    by_cases hin : i < n
    · rw [fs_at hin, fs_at hin]
      unfold fval
      cases rs.getD i 0 with
      | zero => rw [pk_un (fun q => hi q.symm)]
      | succ r => rfl
    · have h1 : ((List.range n).map (fval ad f rs)).length ≤ i := by simpa using hin
      have h2 : ((List.range n).map (fval ad (upd f j x) rs)).length ≤ i := by simpa using hin
      rw [List.getElem?_eq_none h1, List.getElem?_eq_none h2]
/-! the locals as a list -/
def lgt : List (Option Value) → Nat → Option Value
  | [], _ => none
  | a :: _, 0 => a
  | _ :: t, n + 1 => lgt t n
def lst : List (Option Value) → Nat → Value → List (Option Value)
  | [], _, _ => []
  | _ :: t, 0, v => some v :: t
  | a :: t, n + 1, v => a :: lst t n v
def lmk : List Bool → List (Option Value) → List (Option Value)
  | true :: b, a :: t => a :: lmk b t
  | false :: b, _ :: t => none :: lmk b t
  | [], _ => []
  | _, [] => []
def lps : Nat → List (Option Value) → List (Nat × Value)
  | _, [] => []
  | k, none :: t => lps (k + 1) t
  | k, some v :: t => (k, v) :: lps (k + 1) t
theorem lps_mem {L : List (Option Value)} : ∀ {k i : Nat} {v : Value}, (i, v) ∈ lps k L ↔ k ≤ i ∧ lgt L (i - k) = some v := by
  induction L with
  | nil => intro k i v; simp [lps, lgt]
  | cons a t ih =>
    intro k i v
    have key : k ≤ i ∧ lgt (a :: t) (i - k) = some v ↔ (i = k ∧ a = some v) ∨ (k + 1 ≤ i ∧ lgt t (i - (k + 1)) = some v) := by
      constructor
      · rintro ⟨h1, h2⟩
        rcases Nat.eq_or_lt_of_le h1 with e | e
        · subst e
          rw [Nat.sub_self] at h2
          exact Or.inl ⟨rfl, h2⟩
        · refine Or.inr ⟨e, ?_⟩
          rw [show i - k = (i - (k + 1)) + 1 by omega] at h2
          exact h2
      · rintro (⟨rfl, h2⟩ | ⟨h1, h2⟩)
        · refine ⟨Nat.le_refl _, ?_⟩
          rw [Nat.sub_self]
          exact h2
        · refine ⟨by omega, ?_⟩
          rw [show i - k = (i - (k + 1)) + 1 by omega]
          exact h2
    rw [key]
    cases a with
    | none => simp [lps, ih]
    | some w =>
      simp only [lps, List.mem_cons, ih, Prod.mk.injEq, Option.some.injEq]
      constructor
      · rintro (⟨h1, h2⟩ | h)
        · exact Or.inl ⟨h1, h2.symm⟩
        · exact Or.inr h
      · rintro (⟨h1, h2⟩ | h)
        · exact Or.inl ⟨h1, h2.symm⟩
        · exact Or.inr h
theorem lgt_lst {L : List (Option Value)} : ∀ {i j : Nat} {v w : Value}, lgt (lst L i v) j = some w → (j = i ∧ w = v) ∨ (j ≠ i ∧ lgt L j = some w) := by
  induction L with
  | nil => intro i j v w h; simp [lst, lgt] at h
  | cons a t ih =>
    intro i j v w h
    cases i with
    | zero =>
      cases j with
      | zero => simp [lst, lgt] at h; exact Or.inl ⟨rfl, h.symm⟩
      | succ j => exact Or.inr ⟨by omega, h⟩
    | succ i =>
      cases j with
      | zero => exact Or.inr ⟨by omega, h⟩
      | succ j =>
        rcases ih (show lgt (lst t i v) j = some w from h) with ⟨h1, h2⟩ | ⟨h1, h2⟩
        · exact Or.inl ⟨by omega, h2⟩
        · exact Or.inr ⟨by omega, h2⟩
theorem lgt_lmk {b : List Bool} : ∀ {L : List (Option Value)} {j : Nat} {w : Value}, lgt (lmk b L) j = some w → lgt L j = some w := by
  induction b with
  | nil => intro L j w h; cases L <;> simp [lmk, lgt] at h
  | cons x b ih =>
    intro L j w h
    cases L with
    | nil => cases x <;> simp [lmk, lgt] at h
    | cons a t =>
      cases x <;> cases j with
      | zero => first | (simp [lmk, lgt] at h; done) | exact h
      | succ j =>
        show lgt t j = some w
        exact ih (show lgt (lmk b t) j = some w from h)
def loc (ls : Array Slot) (nL : Nat) (L : List (Option Value)) : Prop := lv_has ls nL (lps 0 L) ∧ ∀ i v, lgt L i = some v → v.category = 1
theorem loc.at {ls : Array Slot} {nL : Nat} {L : List (Option Value)} (h : loc ls nL L) {i : Nat} {v : Value} (hi : lgt L i = some v) : ls[i]? = some (.val v) := h.1.2.2 (i, v) (lps_mem.mpr ⟨Nat.zero_le _, hi⟩)
theorem loc.less {ls : Array Slot} {nL : Nat} {L L' : List (Option Value)} (h : loc ls nL L) (hs : ∀ i v, lgt L' i = some v → lgt L i = some v) : loc ls nL L' :=
  ⟨⟨h.1.1, h.1.2.1, fun q hq => h.at (hs q.1 q.2 (lps_mem.mp (show (q.1, q.2) ∈ lps 0 L' from hq)).2)⟩, fun i v hi => h.2 i v (hs i v hi)⟩
theorem loc.mask {ls : Array Slot} {nL : Nat} {L : List (Option Value)} (h : loc ls nL L) (b : List Bool) : loc ls nL (lmk b L) := h.less (fun _ _ => lgt_lmk)
/-- what the store rows of the kit hand on -/
theorem loc.st {ls' : Array Slot} {nL i : Nat} {L : List (Option Value)} {v : Value} (hc : v.category = 1) (h2 : ∀ j w, lgt L j = some w → w.category = 1) (h : lv_has ls' nL ((i, v) :: (lps 0 L).filter (fun q => !(q.1 == i) && !(q.1 + 1 == i && q.2.category == 2)))) : loc ls' nL (lst L i v) := by
  refine ⟨⟨h.1, h.2.1, fun q hq => ?_⟩, fun j w hj => ?_⟩
  · obtain ⟨j, w⟩ := q
    have h1 := (lps_mem.mp hq).2
    rw [Nat.sub_zero] at h1
    refine h.2.2 (j, w) ?_
    rcases lgt_lst h1 with ⟨rfl, rfl⟩ | ⟨h3, h4⟩
    · exact List.mem_cons_self
    · refine List.mem_cons_of_mem _ (List.mem_filter.mpr ⟨lps_mem.mpr ⟨Nat.zero_le _, h4⟩, ?_⟩)
      have hw := h2 j w h4
      simp [h3, hw]
  · rcases lgt_lst hj with ⟨-, rfl⟩ | ⟨-, h4⟩
    · exact hc
    · exact h2 j w h4
theorem lv_args_one : ∀ (vs : List Value) (k i : Nat) (w : Value), (∀ v ∈ vs, v.category = 1) → lgt (vs.map some) i = some w → (k + i, w) ∈ lv_args k vs := by
  intro vs
  induction vs with
  | nil => intro k i w _ h; simp [lgt] at h
  | cons v vs ih =>
    intro k i w hc h
    have h1 : v.category = 1 := hc v List.mem_cons_self
    unfold lv_args
    rw [if_neg (by omega)]
    cases i with
    | zero =>
      have : v = w := Option.some.inj h
      subst this
      exact List.mem_cons_self
    | succ i =>
      have := ih (k + 1) i w (fun v hv => hc v (List.mem_cons_of_mem _ hv)) h
      rw [show k + 1 + i = k + (i + 1) by omega] at this
      exact List.mem_cons_of_mem _ this
theorem lgt_app_none : ∀ (L : List (Option Value)) (n i : Nat) (w : Value), lgt (L ++ List.replicate n none) i = some w → lgt L i = some w := by
  intro L
  induction L with
  | nil =>
    intro n
    induction n with
    | zero => intro i w h; exact h
    | succ n ih =>
      intro i w h
      cases i with
      | zero => simp [List.replicate_succ, lgt] at h
      | succ i => exact absurd (ih i w h) (by simp [lgt])
  | cons a t ih =>
    intro n i w h
    cases i with
    | zero => exact h
    | succ i => exact ih n i w h
theorem loc_entry (vs : List Value) {n j : Nat} (hc : ∀ v ∈ vs, v.category = 1) (h : (lg_sl vs).length ≤ n) : loc ((lg_sl vs ++ List.replicate (n - (lg_sl vs).length) Slot.unset).toArray) n (vs.map some ++ List.replicate j none) := by
  have h0 := lv_entry vs h
  have key : ∀ i v, lgt (vs.map some ++ List.replicate j none) i = some v → (i, v) ∈ lv_args 0 vs := fun i v hi => by
    have := lv_args_one vs 0 i v hc (lgt_app_none _ _ _ _ hi)
    rwa [Nat.zero_add] at this
  have mem : ∀ (vs : List Value) (k : Nat) (q : Nat × Value), q ∈ lv_args k vs → q.2 ∈ vs := by
    intro vs
    induction vs with
    | nil => intro k q h; cases h
    | cons a t ih =>
      intro k q h
      unfold lv_args at h
      rcases List.mem_cons.mp h with e | e
      · rw [e]; exact List.mem_cons_self
      · exact List.mem_cons_of_mem _ (ih _ q e)
  exact ⟨⟨h0.1, h0.2.1, fun q hq => h0.2.2 q (by
    obtain ⟨i, v⟩ := q
    have := (lps_mem.mp hq).2
    rw [Nat.sub_zero] at this
    exact key i v this)⟩, fun i v hi => hc v (mem vs 0 (i, v) (key i v hi))⟩
