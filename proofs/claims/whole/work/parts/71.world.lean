/-! from the made world to the static one -/
def PI : List Nat := [0, 1, 2, 3, 8, 4, 5, 6, 7, 13, 9, 10, 11, 12, 18, 14, 15, 16, 17, 23, 19, 20, 21, 22, 28, 24, 25, 26, 27, 33, 29, 30, 31, 32, 38, 34, 35, 36, 37, 43, 39, 40, 41, 42, 61, 62, 63, 68, 64, 65, 66, 67, 73, 69, 70, 71, 72, 78, 74, 75, 76, 77, 83, 79, 80, 81, 82, 88, 84, 85, 86, 87, 93, 89, 90, 91, 92, 98, 94, 95, 96, 97, 103, 99, 100, 101, 102, 44, 45, 46, 47, 48, 49, 50, 51, 52, 53, 54, 55, 56, 57, 58, 59, 60, 104, 105, 106, 107, 108, 109, 110, 111, 112, 113, 114, 119, 115, 116, 117, 118, 120, 121, 122, 164, 165, 166, 167, 123, 124, 168, 125, 126, 127, 128, 169, 129, 130, 131, 132, 133, 134, 135, 136, 137, 138, 139, 140, 141, 142, 143, 144, 145, 146, 147, 148, 149, 150, 151, 152, 153, 154, 155, 156, 157, 158, 159, 160, 161, 162, 163, 170]
def σ0L : List (Nat → Int32) := [
  fun j => [0, 0, 0, 0, 0, 0, 0, 0, 0, 0, 0, 0, 0, 0].getD j 0,
  fun j => [0, 0, 1].getD j 0,
  fun _ => 0,
  fun _ => 0,
  fun j => [0, 0, 0, 0, 0, 2, 0, (-1), (-1), 1].getD j 0,
  fun _ => 0,
  fun _ => 0,
  fun _ => 0,
  fun _ => 0,
  fun j => [0, 0, 0, 0, 0, 2, 0, (-1), (-1), 1].getD j 0,
  fun _ => 0,
  fun _ => 0,
  fun _ => 0,
  fun _ => 0,
  fun j => [0, 0, 0, 0, 0, 2, 0, (-1), (-1), 1].getD j 0,
  fun _ => 0,
  fun _ => 0,
  fun _ => 0,
  fun _ => 0,
  fun j => [0, 0, 0, 0, 0, 2, 0, (-1), (-1), 1].getD j 0,
  fun _ => 0,
  fun _ => 0,
  fun _ => 0,
  fun _ => 0,
  fun j => [0, 0, 0, 0, 0, 2, 0, (-1), (-1), 1].getD j 0,
  fun _ => 0,
  fun _ => 0,
  fun _ => 0,
  fun _ => 0,
  fun j => [0, 0, 0, 0, 0, 2, 0, (-1), (-1), 1].getD j 0,
  fun _ => 0,
  fun _ => 0,
  fun _ => 0,
  fun _ => 0,
  fun j => [0, 0, 0, 0, 0, 2, 0, (-1), (-1), 1].getD j 0,
  fun _ => 0,
  fun _ => 0,
  fun _ => 0,
  fun _ => 0,
  fun j => [0, 0, 0, 0, 0, 2, 0, (-1), (-1), 1].getD j 0,
  fun _ => 0,
  fun _ => 0,
  fun _ => 0,
  fun _ => 0,
  fun j => [0, 0, 1].getD j 0,
  fun _ => 0,
  fun _ => 0,
  fun j => [0, 0, 0, 0, 0, 2, 0, (-1), (-1), 1].getD j 0,
  fun _ => 0,
  fun _ => 0,
  fun _ => 0,
  fun _ => 0,
  fun j => [0, 0, 0, 0, 0, 2, 0, (-1), (-1), 1].getD j 0,
  fun _ => 0,
  fun _ => 0,
  fun _ => 0,
  fun _ => 0,
  fun j => [0, 0, 0, 0, 0, 2, 0, (-1), (-1), 1].getD j 0,
  fun _ => 0,
  fun _ => 0,
  fun _ => 0,
  fun _ => 0,
  fun j => [0, 0, 0, 0, 0, 2, 0, (-1), (-1), 1].getD j 0,
  fun _ => 0,
  fun _ => 0,
  fun _ => 0,
  fun _ => 0,
  fun j => [0, 0, 0, 0, 0, 2, 0, (-1), (-1), 1].getD j 0,
  fun _ => 0,
  fun _ => 0,
  fun _ => 0,
  fun _ => 0,
  fun j => [0, 0, 0, 0, 0, 2, 0, (-1), (-1), 1].getD j 0,
  fun _ => 0,
  fun _ => 0,
  fun _ => 0,
  fun _ => 0,
  fun j => [0, 0, 0, 0, 0, 2, 0, (-1), (-1), 1].getD j 0,
  fun _ => 0,
  fun _ => 0,
  fun _ => 0,
  fun _ => 0,
  fun j => [0, 0, 0, 0, 0, 2, 0, (-1), (-1), 1].getD j 0,
  fun _ => 0,
  fun _ => 0,
  fun _ => 0,
  fun _ => 0,
  fun j => [0, 0, 0, 0, 0, 0, 0].getD j 0,
  fun _ => 0,
  fun _ => 0,
  fun _ => 0,
  fun _ => 0,
  fun _ => 0,
  fun _ => 0,
  fun j => [0, 0, 0, 0].getD j 0,
  fun _ => 0,
  fun _ => 0,
  fun j => [0, 0, 0, 0, 0, 0, 0, 0, 0, 0, 0, 0, 0].getD j 0,
  fun _ => 0,
  fun _ => 0,
  fun _ => 0,
  fun _ => 0,
  fun _ => 0,
  fun _ => 0,
  fun j => [0, 0, 0, 0, 0, 0, 0, 0, 0].getD j 0,
  fun _ => 0,
  fun _ => 0,
  fun j => [0, 0, 0, 0, 0, 0, 0, 0, 0, 0, 0, 0, 0, 0].getD j 0,
  fun _ => 0,
  fun _ => 0,
  fun _ => 0,
  fun _ => 0,
  fun _ => 0,
  fun j => [0, 0, 0, 0, 0].getD j 0,
  fun _ => 0,
  fun j => [0, 0, 0, 0, 0, 2, 0, (-1), (-1), 1].getD j 0,
  fun _ => 0,
  fun _ => 0,
  fun _ => 0,
  fun _ => 0,
  fun _ => 0,
  fun _ => 0,
  fun _ => 0,
  fun j => [0, 1, 0, 0, 0, 0, 0, 0, 0, 0, 0, 0, 0, 0, 0, 0, 0, 0, 0, 0, 0, 0, 0, 0, 0, 0, 0, 0, 0, 0, 0, 0, 0, 0, 0, 0, 0, 0, 0, 0, 0, 0, 0, 0, 0, 0, 0, 0, 0, 0, 0, 0, 0, 0, 0, 0, 0, 0, 0, 0, 0, 0, 0, 0, 0, 0].getD j 0,
  upd (upd (upd (upd (upd (upd (upd (upd (fun _ => 0) (Int32.toNatClampNeg 0) 0) (Int32.toNatClampNeg 1) 0) (Int32.toNatClampNeg 2) 0) (Int32.toNatClampNeg 3) 0) (Int32.toNatClampNeg 4) 0) (Int32.toNatClampNeg 5) 0) (Int32.toNatClampNeg 6) 0) (Int32.toNatClampNeg 7) 0,
  upd (upd (upd (upd (upd (upd (upd (upd (fun _ => 0) (Int32.toNatClampNeg 0) 2) (Int32.toNatClampNeg 1) 2) (Int32.toNatClampNeg 2) 2) (Int32.toNatClampNeg 3) 2) (Int32.toNatClampNeg 4) 2) (Int32.toNatClampNeg 5) 2) (Int32.toNatClampNeg 6) 2) (Int32.toNatClampNeg 7) 2,
  upd (upd (upd (upd (upd (upd (upd (upd (fun _ => 0) (Int32.toNatClampNeg 0) 0) (Int32.toNatClampNeg 1) 0) (Int32.toNatClampNeg 2) 0) (Int32.toNatClampNeg 3) 0) (Int32.toNatClampNeg 4) 0) (Int32.toNatClampNeg 5) 0) (Int32.toNatClampNeg 6) 0) (Int32.toNatClampNeg 7) 0,
  fun _ => 0,
  fun _ => 0,
  upd (upd (upd (upd (upd (upd (upd (upd (fun _ => 0) (Int32.toNatClampNeg 0) 1) (Int32.toNatClampNeg 1) 1) (Int32.toNatClampNeg 2) 1) (Int32.toNatClampNeg 3) 1) (Int32.toNatClampNeg 4) 1) (Int32.toNatClampNeg 5) 1) (Int32.toNatClampNeg 6) 1) (Int32.toNatClampNeg 7) 1,
  fun _ => 0,
  fun _ => 0,
  fun _ => 0,
  fun _ => 0,
  upd (upd (upd (upd (upd (upd (upd (upd (upd (upd (upd (upd (fun _ => 0) (Int32.toNatClampNeg 0) 0) (Int32.toNatClampNeg 1) 0) (Int32.toNatClampNeg 2) 0) (Int32.toNatClampNeg 3) 0) (Int32.toNatClampNeg 4) 0) (Int32.toNatClampNeg 5) 0) (Int32.toNatClampNeg 6) 0) (Int32.toNatClampNeg 7) 0) (Int32.toNatClampNeg 8) 0) (Int32.toNatClampNeg 9) 0) (Int32.toNatClampNeg 10) 0) (Int32.toNatClampNeg 11) 0,
  fun _ => 0,
  fun _ => 0,
  fun _ => 0,
  fun _ => 0,
  fun _ => 0,
  fun _ => 0,
  fun _ => 0,
  fun _ => 0,
  fun _ => 0,
  fun _ => 0,
  fun _ => 0,
  fun _ => 0,
  fun _ => 0,
  fun _ => 0,
  fun _ => 0,
  fun _ => 0,
  fun _ => 0,
  fun _ => 0,
  fun _ => 0,
  fun _ => 0,
  fun _ => 0,
  fun _ => 0,
  fun _ => 0,
  fun _ => 0,
  fun _ => 0,
  fun _ => 0,
  fun _ => 0,
  fun _ => 0,
  fun _ => 0,
  fun _ => 0,
  fun _ => 0,
  fun _ => 0,
  fun _ => 0,
  fun _ => 0,
  fun _ => 0,
  fun _ => 0]
def σ0 : Mm := fun k => σ0L.getD k (fun _ => 0)
def wAll (cA : Nat → ClassId) (h1 h2 h3 : Nat) (k1 k2 : Nat → Nat) : va_W := (wSpl cA h1 k1 ++ wMod cA h2 k2) ++ [(h3, .inl (cA 3, 1, .inr (.inl (fun _ => 0))))]
def adA (w : va_W) (adK adV : Nat → Nat) : Nat → Nat := fun k => if k < 171 then (w.map Prod.fst).getD (PI.getD k 0) 0 else if k < 1010 then adK (k - 1000) else adV (k - 1010)
theorem vp_cell_qc {cA : ClassId} {n : Nat} {f g : Nat → Option Nat} (h : ∀ i, i < n → f i = g i) : vp_cell cA (n, .inr (.inr (.inr (.inr f)))) = vp_cell cA (n, .inr (.inr (.inr (.inr g)))) := by
  rw [vp_cell_q, vp_cell_q]
  unfold arrV
  congr 1
  apply Array.ext
  · simp
  · intro i h1 h2
    simp at h1
    simp [h i h1]
theorem vp_cell_lc {cA : ClassId} {n : Nat} {f g : Nat → Int64} (h : f = g) : vp_cell cA (n, .inr (.inl f)) = vp_cell cA (n, .inr (.inl g)) := by rw [h]
theorem PI_inj : ∀ i, i < 171 → ∀ j, j < 171 → PI.getD i 0 = PI.getD j 0 → i = j := by decide +kernel
theorem PI_lt : ∀ i, i < 171 → PI.getD i 0 < 171 := by decide +kernel
set_option maxRecDepth 100000 in
theorem wAll_len {cA : Nat → ClassId} {h1 h2 h3 : Nat} {k1 k2 : Nat → Nat} : (wAll cA h1 h2 h3 k1 k2).length = 171 := rfl
theorem ad_at {w : va_W} {adK adV : Nat → Nat} (hw : w.length = 171) {i : Nat} (hi : i < 171) : ∃ e, w[PI.getD i 0]? = some (adA w adK adV i, e) := by
  have h1 : PI.getD i 0 < w.length := by rw [hw]; exact PI_lt i hi
  unfold adA
  rw [if_pos hi]
  generalize PI.getD i 0 = k at h1
  have e1 : w[k]? = some w[k] := List.getElem?_eq_getElem h1
  have e2 : (w.map Prod.fst).getD k 0 = (w[k]).1 := by
    rw [List.getD_eq_getElem?_getD, List.getElem?_map, e1]
    rfl
  exact ⟨(w[k]).2, by rw [e1, e2]⟩
theorem ad_inj {w : va_W} {adK adV : Nat → Nat} {A : Nat → Prop} (hw : w.length = 171) (hD : va_D A w) : ∀ i j, i < SH.length → j < SH.length → adA w adK adV i = adA w adK adV j → i = j := by
  intro i j hi hj e
  rw [SH_len] at hi hj
  obtain ⟨e1, g1⟩ := ad_at (adK := adK) (adV := adV) hw hi
  obtain ⟨e2, g2⟩ := ad_at (adK := adK) (adV := adV) hw hj
  exact PI_inj i hi j hj (hD.1 _ _ _ _ g1 g2 e)
theorem ad_A {w : va_W} {adK adV : Nat → Nat} {A : Nat → Prop} (hw : w.length = 171) (hD : va_D A w) : ∀ i, i < SH.length → A (adA w adK adV i) := by
  intro i hi
  rw [SH_len] at hi
  obtain ⟨e1, g1⟩ := ad_at (adK := adK) (adV := adV) hw hi
  exact hD.2 _ _ g1
set_option maxHeartbeats 8000000 in
set_option maxRecDepth 100000 in
theorem wAll_0 {D : va_G} {cA : Nat → ClassId} {h1 h2 h3 : Nat} {k1 k2 adK adV : Nat → Nat} {H : Heap} (hP : va_P D CL (wAll cA h1 h2 h3 k1 k2) H) (k : Nat) (e : sh_T) (he : SH[k]? = some e) (h1k : 0 ≤ k) (h2k : k < 20) : va_at D CL (adA (wAll cA h1 h2 h3 k1 k2) adK adV k, sE cA (adA (wAll cA h1 h2 h3 k1 k2) adK adV) (σ0 k) e) H := by
  rcases (show k = 0 ∨ k = 1 ∨ k = 2 ∨ k = 3 ∨ k = 4 ∨ k = 5 ∨ k = 6 ∨ k = 7 ∨ k = 8 ∨ k = 9 ∨ k = 10 ∨ k = 11 ∨ k = 12 ∨ k = 13 ∨ k = 14 ∨ k = 15 ∨ k = 16 ∨ k = 17 ∨ k = 18 ∨ k = 19 by omega) with rfl | rfl | rfl | rfl | rfl | rfl | rfl | rfl | rfl | rfl | rfl | rfl | rfl | rfl | rfl | rfl | rfl | rfl | rfl | rfl
  · obtain rfl := Option.some.inj (he.symm.trans SH_0)
    exact hP 0 _ rfl
  · obtain rfl := Option.some.inj (he.symm.trans SH_1)
    exact hP 1 _ rfl
  · obtain rfl := Option.some.inj (he.symm.trans SH_2)
    refine (hP 2 _ rfl).trans (congrArg some (vp_cell_qc (fun i hi => ?_)))
    rcases (show i = 0 ∨ i = 1 ∨ i = 2 ∨ i = 3 ∨ i = 4 ∨ i = 5 ∨ i = 6 ∨ i = 7 by omega) with rfl | rfl | rfl | rfl | rfl | rfl | rfl | rfl <;> rfl
  · obtain rfl := Option.some.inj (he.symm.trans SH_3)
    exact hP 3 _ rfl
  · obtain rfl := Option.some.inj (he.symm.trans SH_4)
    exact hP 8 _ rfl
  · obtain rfl := Option.some.inj (he.symm.trans SH_5)
    exact hP 4 _ rfl
  · obtain rfl := Option.some.inj (he.symm.trans SH_6)
    exact hP 5 _ rfl
  · obtain rfl := Option.some.inj (he.symm.trans SH_7)
    exact hP 6 _ rfl
  · obtain rfl := Option.some.inj (he.symm.trans SH_8)
    exact hP 7 _ rfl
  · obtain rfl := Option.some.inj (he.symm.trans SH_9)
    exact hP 13 _ rfl
  · obtain rfl := Option.some.inj (he.symm.trans SH_10)
    exact hP 9 _ rfl
  · obtain rfl := Option.some.inj (he.symm.trans SH_11)
    exact hP 10 _ rfl
  · obtain rfl := Option.some.inj (he.symm.trans SH_12)
    exact hP 11 _ rfl
  · obtain rfl := Option.some.inj (he.symm.trans SH_13)
    exact hP 12 _ rfl
  · obtain rfl := Option.some.inj (he.symm.trans SH_14)
    exact hP 18 _ rfl
  · obtain rfl := Option.some.inj (he.symm.trans SH_15)
    exact hP 14 _ rfl
  · obtain rfl := Option.some.inj (he.symm.trans SH_16)
    exact hP 15 _ rfl
  · obtain rfl := Option.some.inj (he.symm.trans SH_17)
    exact hP 16 _ rfl
  · obtain rfl := Option.some.inj (he.symm.trans SH_18)
    exact hP 17 _ rfl
  · obtain rfl := Option.some.inj (he.symm.trans SH_19)
    exact hP 23 _ rfl
set_option maxHeartbeats 8000000 in
set_option maxRecDepth 100000 in
theorem wAll_20 {D : va_G} {cA : Nat → ClassId} {h1 h2 h3 : Nat} {k1 k2 adK adV : Nat → Nat} {H : Heap} (hP : va_P D CL (wAll cA h1 h2 h3 k1 k2) H) (k : Nat) (e : sh_T) (he : SH[k]? = some e) (h1k : 20 ≤ k) (h2k : k < 40) : va_at D CL (adA (wAll cA h1 h2 h3 k1 k2) adK adV k, sE cA (adA (wAll cA h1 h2 h3 k1 k2) adK adV) (σ0 k) e) H := by
  rcases (show k = 20 ∨ k = 21 ∨ k = 22 ∨ k = 23 ∨ k = 24 ∨ k = 25 ∨ k = 26 ∨ k = 27 ∨ k = 28 ∨ k = 29 ∨ k = 30 ∨ k = 31 ∨ k = 32 ∨ k = 33 ∨ k = 34 ∨ k = 35 ∨ k = 36 ∨ k = 37 ∨ k = 38 ∨ k = 39 by omega) with rfl | rfl | rfl | rfl | rfl | rfl | rfl | rfl | rfl | rfl | rfl | rfl | rfl | rfl | rfl | rfl | rfl | rfl | rfl | rfl
  · obtain rfl := Option.some.inj (he.symm.trans SH_20)
    exact hP 19 _ rfl
  · obtain rfl := Option.some.inj (he.symm.trans SH_21)
    exact hP 20 _ rfl
  · obtain rfl := Option.some.inj (he.symm.trans SH_22)
    exact hP 21 _ rfl
  · obtain rfl := Option.some.inj (he.symm.trans SH_23)
    exact hP 22 _ rfl
  · obtain rfl := Option.some.inj (he.symm.trans SH_24)
    exact hP 28 _ rfl
  · obtain rfl := Option.some.inj (he.symm.trans SH_25)
    exact hP 24 _ rfl
  · obtain rfl := Option.some.inj (he.symm.trans SH_26)
    exact hP 25 _ rfl
  · obtain rfl := Option.some.inj (he.symm.trans SH_27)
    exact hP 26 _ rfl
  · obtain rfl := Option.some.inj (he.symm.trans SH_28)
    exact hP 27 _ rfl
  · obtain rfl := Option.some.inj (he.symm.trans SH_29)
    exact hP 33 _ rfl
  · obtain rfl := Option.some.inj (he.symm.trans SH_30)
    exact hP 29 _ rfl
  · obtain rfl := Option.some.inj (he.symm.trans SH_31)
    exact hP 30 _ rfl
  · obtain rfl := Option.some.inj (he.symm.trans SH_32)
    exact hP 31 _ rfl
  · obtain rfl := Option.some.inj (he.symm.trans SH_33)
    exact hP 32 _ rfl
  · obtain rfl := Option.some.inj (he.symm.trans SH_34)
    exact hP 38 _ rfl
  · obtain rfl := Option.some.inj (he.symm.trans SH_35)
    exact hP 34 _ rfl
  · obtain rfl := Option.some.inj (he.symm.trans SH_36)
    exact hP 35 _ rfl
  · obtain rfl := Option.some.inj (he.symm.trans SH_37)
    exact hP 36 _ rfl
  · obtain rfl := Option.some.inj (he.symm.trans SH_38)
    exact hP 37 _ rfl
  · obtain rfl := Option.some.inj (he.symm.trans SH_39)
    exact hP 43 _ rfl
set_option maxHeartbeats 8000000 in
set_option maxRecDepth 100000 in
theorem wAll_40 {D : va_G} {cA : Nat → ClassId} {h1 h2 h3 : Nat} {k1 k2 adK adV : Nat → Nat} {H : Heap} (hP : va_P D CL (wAll cA h1 h2 h3 k1 k2) H) (k : Nat) (e : sh_T) (he : SH[k]? = some e) (h1k : 40 ≤ k) (h2k : k < 60) : va_at D CL (adA (wAll cA h1 h2 h3 k1 k2) adK adV k, sE cA (adA (wAll cA h1 h2 h3 k1 k2) adK adV) (σ0 k) e) H := by
  rcases (show k = 40 ∨ k = 41 ∨ k = 42 ∨ k = 43 ∨ k = 44 ∨ k = 45 ∨ k = 46 ∨ k = 47 ∨ k = 48 ∨ k = 49 ∨ k = 50 ∨ k = 51 ∨ k = 52 ∨ k = 53 ∨ k = 54 ∨ k = 55 ∨ k = 56 ∨ k = 57 ∨ k = 58 ∨ k = 59 by omega) with rfl | rfl | rfl | rfl | rfl | rfl | rfl | rfl | rfl | rfl | rfl | rfl | rfl | rfl | rfl | rfl | rfl | rfl | rfl | rfl
  · obtain rfl := Option.some.inj (he.symm.trans SH_40)
    exact hP 39 _ rfl
  · obtain rfl := Option.some.inj (he.symm.trans SH_41)
    exact hP 40 _ rfl
  · obtain rfl := Option.some.inj (he.symm.trans SH_42)
    exact hP 41 _ rfl
  · obtain rfl := Option.some.inj (he.symm.trans SH_43)
    exact hP 42 _ rfl
  · obtain rfl := Option.some.inj (he.symm.trans SH_44)
    exact hP 61 _ rfl
  · obtain rfl := Option.some.inj (he.symm.trans SH_45)
    refine (hP 62 _ rfl).trans (congrArg some (vp_cell_qc (fun i hi => ?_)))
    rcases (show i = 0 ∨ i = 1 ∨ i = 2 ∨ i = 3 ∨ i = 4 ∨ i = 5 ∨ i = 6 ∨ i = 7 by omega) with rfl | rfl | rfl | rfl | rfl | rfl | rfl | rfl <;> rfl
  · obtain rfl := Option.some.inj (he.symm.trans SH_46)
    exact hP 63 _ rfl
  · obtain rfl := Option.some.inj (he.symm.trans SH_47)
    exact hP 68 _ rfl
  · obtain rfl := Option.some.inj (he.symm.trans SH_48)
    exact hP 64 _ rfl
  · obtain rfl := Option.some.inj (he.symm.trans SH_49)
    exact hP 65 _ rfl
  · obtain rfl := Option.some.inj (he.symm.trans SH_50)
    exact hP 66 _ rfl
  · obtain rfl := Option.some.inj (he.symm.trans SH_51)
    exact hP 67 _ rfl
  · obtain rfl := Option.some.inj (he.symm.trans SH_52)
    exact hP 73 _ rfl
  · obtain rfl := Option.some.inj (he.symm.trans SH_53)
    exact hP 69 _ rfl
  · obtain rfl := Option.some.inj (he.symm.trans SH_54)
    exact hP 70 _ rfl
  · obtain rfl := Option.some.inj (he.symm.trans SH_55)
    exact hP 71 _ rfl
  · obtain rfl := Option.some.inj (he.symm.trans SH_56)
    exact hP 72 _ rfl
  · obtain rfl := Option.some.inj (he.symm.trans SH_57)
    exact hP 78 _ rfl
  · obtain rfl := Option.some.inj (he.symm.trans SH_58)
    exact hP 74 _ rfl
  · obtain rfl := Option.some.inj (he.symm.trans SH_59)
    exact hP 75 _ rfl
set_option maxHeartbeats 8000000 in
set_option maxRecDepth 100000 in
theorem wAll_60 {D : va_G} {cA : Nat → ClassId} {h1 h2 h3 : Nat} {k1 k2 adK adV : Nat → Nat} {H : Heap} (hP : va_P D CL (wAll cA h1 h2 h3 k1 k2) H) (k : Nat) (e : sh_T) (he : SH[k]? = some e) (h1k : 60 ≤ k) (h2k : k < 80) : va_at D CL (adA (wAll cA h1 h2 h3 k1 k2) adK adV k, sE cA (adA (wAll cA h1 h2 h3 k1 k2) adK adV) (σ0 k) e) H := by
  rcases (show k = 60 ∨ k = 61 ∨ k = 62 ∨ k = 63 ∨ k = 64 ∨ k = 65 ∨ k = 66 ∨ k = 67 ∨ k = 68 ∨ k = 69 ∨ k = 70 ∨ k = 71 ∨ k = 72 ∨ k = 73 ∨ k = 74 ∨ k = 75 ∨ k = 76 ∨ k = 77 ∨ k = 78 ∨ k = 79 by omega) with rfl | rfl | rfl | rfl | rfl | rfl | rfl | rfl | rfl | rfl | rfl | rfl | rfl | rfl | rfl | rfl | rfl | rfl | rfl | rfl
  · obtain rfl := Option.some.inj (he.symm.trans SH_60)
    exact hP 76 _ rfl
  · obtain rfl := Option.some.inj (he.symm.trans SH_61)
    exact hP 77 _ rfl
  · obtain rfl := Option.some.inj (he.symm.trans SH_62)
    exact hP 83 _ rfl
  · obtain rfl := Option.some.inj (he.symm.trans SH_63)
    exact hP 79 _ rfl
  · obtain rfl := Option.some.inj (he.symm.trans SH_64)
    exact hP 80 _ rfl
  · obtain rfl := Option.some.inj (he.symm.trans SH_65)
    exact hP 81 _ rfl
  · obtain rfl := Option.some.inj (he.symm.trans SH_66)
    exact hP 82 _ rfl
  · obtain rfl := Option.some.inj (he.symm.trans SH_67)
    exact hP 88 _ rfl
  · obtain rfl := Option.some.inj (he.symm.trans SH_68)
    exact hP 84 _ rfl
  · obtain rfl := Option.some.inj (he.symm.trans SH_69)
    exact hP 85 _ rfl
  · obtain rfl := Option.some.inj (he.symm.trans SH_70)
    exact hP 86 _ rfl
  · obtain rfl := Option.some.inj (he.symm.trans SH_71)
    exact hP 87 _ rfl
  · obtain rfl := Option.some.inj (he.symm.trans SH_72)
    exact hP 93 _ rfl
  · obtain rfl := Option.some.inj (he.symm.trans SH_73)
    exact hP 89 _ rfl
  · obtain rfl := Option.some.inj (he.symm.trans SH_74)
    exact hP 90 _ rfl
  · obtain rfl := Option.some.inj (he.symm.trans SH_75)
    exact hP 91 _ rfl
  · obtain rfl := Option.some.inj (he.symm.trans SH_76)
    exact hP 92 _ rfl
  · obtain rfl := Option.some.inj (he.symm.trans SH_77)
    exact hP 98 _ rfl
  · obtain rfl := Option.some.inj (he.symm.trans SH_78)
    exact hP 94 _ rfl
  · obtain rfl := Option.some.inj (he.symm.trans SH_79)
    exact hP 95 _ rfl
set_option maxHeartbeats 8000000 in
set_option maxRecDepth 100000 in
theorem wAll_80 {D : va_G} {cA : Nat → ClassId} {h1 h2 h3 : Nat} {k1 k2 adK adV : Nat → Nat} {H : Heap} (hP : va_P D CL (wAll cA h1 h2 h3 k1 k2) H) (k : Nat) (e : sh_T) (he : SH[k]? = some e) (h1k : 80 ≤ k) (h2k : k < 100) : va_at D CL (adA (wAll cA h1 h2 h3 k1 k2) adK adV k, sE cA (adA (wAll cA h1 h2 h3 k1 k2) adK adV) (σ0 k) e) H := by
  rcases (show k = 80 ∨ k = 81 ∨ k = 82 ∨ k = 83 ∨ k = 84 ∨ k = 85 ∨ k = 86 ∨ k = 87 ∨ k = 88 ∨ k = 89 ∨ k = 90 ∨ k = 91 ∨ k = 92 ∨ k = 93 ∨ k = 94 ∨ k = 95 ∨ k = 96 ∨ k = 97 ∨ k = 98 ∨ k = 99 by omega) with rfl | rfl | rfl | rfl | rfl | rfl | rfl | rfl | rfl | rfl | rfl | rfl | rfl | rfl | rfl | rfl | rfl | rfl | rfl | rfl
  · obtain rfl := Option.some.inj (he.symm.trans SH_80)
    exact hP 96 _ rfl
  · obtain rfl := Option.some.inj (he.symm.trans SH_81)
    exact hP 97 _ rfl
  · obtain rfl := Option.some.inj (he.symm.trans SH_82)
    exact hP 103 _ rfl
  · obtain rfl := Option.some.inj (he.symm.trans SH_83)
    exact hP 99 _ rfl
  · obtain rfl := Option.some.inj (he.symm.trans SH_84)
    exact hP 100 _ rfl
  · obtain rfl := Option.some.inj (he.symm.trans SH_85)
    exact hP 101 _ rfl
  · obtain rfl := Option.some.inj (he.symm.trans SH_86)
    exact hP 102 _ rfl
  · obtain rfl := Option.some.inj (he.symm.trans SH_87)
    exact hP 44 _ rfl
  · obtain rfl := Option.some.inj (he.symm.trans SH_88)
    exact hP 45 _ rfl
  · obtain rfl := Option.some.inj (he.symm.trans SH_89)
    exact hP 46 _ rfl
  · obtain rfl := Option.some.inj (he.symm.trans SH_90)
    exact hP 47 _ rfl
  · obtain rfl := Option.some.inj (he.symm.trans SH_91)
    exact hP 48 _ rfl
  · obtain rfl := Option.some.inj (he.symm.trans SH_92)
    exact hP 49 _ rfl
  · obtain rfl := Option.some.inj (he.symm.trans SH_93)
    exact hP 50 _ rfl
  · obtain rfl := Option.some.inj (he.symm.trans SH_94)
    exact hP 51 _ rfl
  · obtain rfl := Option.some.inj (he.symm.trans SH_95)
    exact hP 52 _ rfl
  · obtain rfl := Option.some.inj (he.symm.trans SH_96)
    exact hP 53 _ rfl
  · obtain rfl := Option.some.inj (he.symm.trans SH_97)
    exact hP 54 _ rfl
  · obtain rfl := Option.some.inj (he.symm.trans SH_98)
    exact hP 55 _ rfl
  · obtain rfl := Option.some.inj (he.symm.trans SH_99)
    exact hP 56 _ rfl
set_option maxHeartbeats 8000000 in
set_option maxRecDepth 100000 in
theorem wAll_100 {D : va_G} {cA : Nat → ClassId} {h1 h2 h3 : Nat} {k1 k2 adK adV : Nat → Nat} {H : Heap} (hP : va_P D CL (wAll cA h1 h2 h3 k1 k2) H) (k : Nat) (e : sh_T) (he : SH[k]? = some e) (h1k : 100 ≤ k) (h2k : k < 120) : va_at D CL (adA (wAll cA h1 h2 h3 k1 k2) adK adV k, sE cA (adA (wAll cA h1 h2 h3 k1 k2) adK adV) (σ0 k) e) H := by
  rcases (show k = 100 ∨ k = 101 ∨ k = 102 ∨ k = 103 ∨ k = 104 ∨ k = 105 ∨ k = 106 ∨ k = 107 ∨ k = 108 ∨ k = 109 ∨ k = 110 ∨ k = 111 ∨ k = 112 ∨ k = 113 ∨ k = 114 ∨ k = 115 ∨ k = 116 ∨ k = 117 ∨ k = 118 ∨ k = 119 by omega) with rfl | rfl | rfl | rfl | rfl | rfl | rfl | rfl | rfl | rfl | rfl | rfl | rfl | rfl | rfl | rfl | rfl | rfl | rfl | rfl
  · obtain rfl := Option.some.inj (he.symm.trans SH_100)
    exact hP 57 _ rfl
  · obtain rfl := Option.some.inj (he.symm.trans SH_101)
    exact hP 58 _ rfl
  · obtain rfl := Option.some.inj (he.symm.trans SH_102)
    exact hP 59 _ rfl
  · obtain rfl := Option.some.inj (he.symm.trans SH_103)
    exact hP 60 _ rfl
  · obtain rfl := Option.some.inj (he.symm.trans SH_104)
    exact hP 104 _ rfl
  · obtain rfl := Option.some.inj (he.symm.trans SH_105)
    exact hP 105 _ rfl
  · obtain rfl := Option.some.inj (he.symm.trans SH_106)
    exact hP 106 _ rfl
  · obtain rfl := Option.some.inj (he.symm.trans SH_107)
    exact hP 107 _ rfl
  · obtain rfl := Option.some.inj (he.symm.trans SH_108)
    exact hP 108 _ rfl
  · obtain rfl := Option.some.inj (he.symm.trans SH_109)
    exact hP 109 _ rfl
  · obtain rfl := Option.some.inj (he.symm.trans SH_110)
    exact hP 110 _ rfl
  · obtain rfl := Option.some.inj (he.symm.trans SH_111)
    exact hP 111 _ rfl
  · obtain rfl := Option.some.inj (he.symm.trans SH_112)
    exact hP 112 _ rfl
  · obtain rfl := Option.some.inj (he.symm.trans SH_113)
    exact hP 113 _ rfl
  · obtain rfl := Option.some.inj (he.symm.trans SH_114)
    exact hP 114 _ rfl
  · obtain rfl := Option.some.inj (he.symm.trans SH_115)
    exact hP 119 _ rfl
  · obtain rfl := Option.some.inj (he.symm.trans SH_116)
    exact hP 115 _ rfl
  · obtain rfl := Option.some.inj (he.symm.trans SH_117)
    exact hP 116 _ rfl
  · obtain rfl := Option.some.inj (he.symm.trans SH_118)
    exact hP 117 _ rfl
  · obtain rfl := Option.some.inj (he.symm.trans SH_119)
    exact hP 118 _ rfl
set_option maxHeartbeats 8000000 in
set_option maxRecDepth 100000 in
theorem wAll_120 {D : va_G} {cA : Nat → ClassId} {h1 h2 h3 : Nat} {k1 k2 adK adV : Nat → Nat} {H : Heap} (hP : va_P D CL (wAll cA h1 h2 h3 k1 k2) H) (k : Nat) (e : sh_T) (he : SH[k]? = some e) (h1k : 120 ≤ k) (h2k : k < 140) : va_at D CL (adA (wAll cA h1 h2 h3 k1 k2) adK adV k, sE cA (adA (wAll cA h1 h2 h3 k1 k2) adK adV) (σ0 k) e) H := by
  rcases (show k = 120 ∨ k = 121 ∨ k = 122 ∨ k = 123 ∨ k = 124 ∨ k = 125 ∨ k = 126 ∨ k = 127 ∨ k = 128 ∨ k = 129 ∨ k = 130 ∨ k = 131 ∨ k = 132 ∨ k = 133 ∨ k = 134 ∨ k = 135 ∨ k = 136 ∨ k = 137 ∨ k = 138 ∨ k = 139 by omega) with rfl | rfl | rfl | rfl | rfl | rfl | rfl | rfl | rfl | rfl | rfl | rfl | rfl | rfl | rfl | rfl | rfl | rfl | rfl | rfl
  · obtain rfl := Option.some.inj (he.symm.trans SH_120)
    exact hP 120 _ rfl
  · obtain rfl := Option.some.inj (he.symm.trans SH_121)
    exact hP 121 _ rfl
  · obtain rfl := Option.some.inj (he.symm.trans SH_122)
    exact hP 122 _ rfl
  · obtain rfl := Option.some.inj (he.symm.trans SH_123)
    exact hP 164 _ rfl
  · obtain rfl := Option.some.inj (he.symm.trans SH_124)
    exact hP 165 _ rfl
  · obtain rfl := Option.some.inj (he.symm.trans SH_125)
    exact hP 166 _ rfl
  · obtain rfl := Option.some.inj (he.symm.trans SH_126)
    exact hP 167 _ rfl
  · obtain rfl := Option.some.inj (he.symm.trans SH_127)
    exact hP 123 _ rfl
  · obtain rfl := Option.some.inj (he.symm.trans SH_128)
    exact hP 124 _ rfl
  · obtain rfl := Option.some.inj (he.symm.trans SH_129)
    exact hP 168 _ rfl
  · obtain rfl := Option.some.inj (he.symm.trans SH_130)
    exact hP 125 _ rfl
  · obtain rfl := Option.some.inj (he.symm.trans SH_131)
    exact hP 126 _ rfl
  · obtain rfl := Option.some.inj (he.symm.trans SH_132)
    exact hP 127 _ rfl
  · obtain rfl := Option.some.inj (he.symm.trans SH_133)
    exact hP 128 _ rfl
  · obtain rfl := Option.some.inj (he.symm.trans SH_134)
    exact hP 169 _ rfl
  · obtain rfl := Option.some.inj (he.symm.trans SH_135)
    exact hP 129 _ rfl
  · obtain rfl := Option.some.inj (he.symm.trans SH_136)
    exact hP 130 _ rfl
  · obtain rfl := Option.some.inj (he.symm.trans SH_137)
    exact hP 131 _ rfl
  · obtain rfl := Option.some.inj (he.symm.trans SH_138)
    exact hP 132 _ rfl
  · obtain rfl := Option.some.inj (he.symm.trans SH_139)
    exact hP 133 _ rfl
set_option maxHeartbeats 8000000 in
set_option maxRecDepth 100000 in
theorem wAll_140 {D : va_G} {cA : Nat → ClassId} {h1 h2 h3 : Nat} {k1 k2 adK adV : Nat → Nat} {H : Heap} (hP : va_P D CL (wAll cA h1 h2 h3 k1 k2) H) (k : Nat) (e : sh_T) (he : SH[k]? = some e) (h1k : 140 ≤ k) (h2k : k < 160) : va_at D CL (adA (wAll cA h1 h2 h3 k1 k2) adK adV k, sE cA (adA (wAll cA h1 h2 h3 k1 k2) adK adV) (σ0 k) e) H := by
  rcases (show k = 140 ∨ k = 141 ∨ k = 142 ∨ k = 143 ∨ k = 144 ∨ k = 145 ∨ k = 146 ∨ k = 147 ∨ k = 148 ∨ k = 149 ∨ k = 150 ∨ k = 151 ∨ k = 152 ∨ k = 153 ∨ k = 154 ∨ k = 155 ∨ k = 156 ∨ k = 157 ∨ k = 158 ∨ k = 159 by omega) with rfl | rfl | rfl | rfl | rfl | rfl | rfl | rfl | rfl | rfl | rfl | rfl | rfl | rfl | rfl | rfl | rfl | rfl | rfl | rfl
  · obtain rfl := Option.some.inj (he.symm.trans SH_140)
    exact hP 134 _ rfl
  · obtain rfl := Option.some.inj (he.symm.trans SH_141)
    exact hP 135 _ rfl
  · obtain rfl := Option.some.inj (he.symm.trans SH_142)
    exact hP 136 _ rfl
  · obtain rfl := Option.some.inj (he.symm.trans SH_143)
    exact hP 137 _ rfl
  · obtain rfl := Option.some.inj (he.symm.trans SH_144)
    exact hP 138 _ rfl
  · obtain rfl := Option.some.inj (he.symm.trans SH_145)
    exact hP 139 _ rfl
  · obtain rfl := Option.some.inj (he.symm.trans SH_146)
    exact hP 140 _ rfl
  · obtain rfl := Option.some.inj (he.symm.trans SH_147)
    exact hP 141 _ rfl
  · obtain rfl := Option.some.inj (he.symm.trans SH_148)
    exact hP 142 _ rfl
  · obtain rfl := Option.some.inj (he.symm.trans SH_149)
    exact hP 143 _ rfl
  · obtain rfl := Option.some.inj (he.symm.trans SH_150)
    exact hP 144 _ rfl
  · obtain rfl := Option.some.inj (he.symm.trans SH_151)
    exact hP 145 _ rfl
  · obtain rfl := Option.some.inj (he.symm.trans SH_152)
    exact hP 146 _ rfl
  · obtain rfl := Option.some.inj (he.symm.trans SH_153)
    exact hP 147 _ rfl
  · obtain rfl := Option.some.inj (he.symm.trans SH_154)
    exact hP 148 _ rfl
  · obtain rfl := Option.some.inj (he.symm.trans SH_155)
    exact hP 149 _ rfl
  · obtain rfl := Option.some.inj (he.symm.trans SH_156)
    exact hP 150 _ rfl
  · obtain rfl := Option.some.inj (he.symm.trans SH_157)
    exact hP 151 _ rfl
  · obtain rfl := Option.some.inj (he.symm.trans SH_158)
    exact hP 152 _ rfl
  · obtain rfl := Option.some.inj (he.symm.trans SH_159)
    exact hP 153 _ rfl
set_option maxHeartbeats 8000000 in
set_option maxRecDepth 100000 in
theorem wAll_160 {D : va_G} {cA : Nat → ClassId} {h1 h2 h3 : Nat} {k1 k2 adK adV : Nat → Nat} {H : Heap} (hP : va_P D CL (wAll cA h1 h2 h3 k1 k2) H) (k : Nat) (e : sh_T) (he : SH[k]? = some e) (h1k : 160 ≤ k) (h2k : k < 171) : va_at D CL (adA (wAll cA h1 h2 h3 k1 k2) adK adV k, sE cA (adA (wAll cA h1 h2 h3 k1 k2) adK adV) (σ0 k) e) H := by
  rcases (show k = 160 ∨ k = 161 ∨ k = 162 ∨ k = 163 ∨ k = 164 ∨ k = 165 ∨ k = 166 ∨ k = 167 ∨ k = 168 ∨ k = 169 ∨ k = 170 by omega) with rfl | rfl | rfl | rfl | rfl | rfl | rfl | rfl | rfl | rfl | rfl
  · obtain rfl := Option.some.inj (he.symm.trans SH_160)
    exact hP 154 _ rfl
  · obtain rfl := Option.some.inj (he.symm.trans SH_161)
    exact hP 155 _ rfl
  · obtain rfl := Option.some.inj (he.symm.trans SH_162)
    exact hP 156 _ rfl
  · obtain rfl := Option.some.inj (he.symm.trans SH_163)
    exact hP 157 _ rfl
  · obtain rfl := Option.some.inj (he.symm.trans SH_164)
    exact hP 158 _ rfl
  · obtain rfl := Option.some.inj (he.symm.trans SH_165)
    exact hP 159 _ rfl
  · obtain rfl := Option.some.inj (he.symm.trans SH_166)
    exact hP 160 _ rfl
  · obtain rfl := Option.some.inj (he.symm.trans SH_167)
    exact hP 161 _ rfl
  · obtain rfl := Option.some.inj (he.symm.trans SH_168)
    exact hP 162 _ rfl
  · obtain rfl := Option.some.inj (he.symm.trans SH_169)
    exact hP 163 _ rfl
  · obtain rfl := Option.some.inj (he.symm.trans SH_170)
    exact (hP 170 _ rfl).trans (congrArg some (vp_cell_lc rfl))
theorem wAll_ok {D : va_G} {cA : Nat → ClassId} {h1 h2 h3 : Nat} {k1 k2 adK adV : Nat → Nat} {H : Heap} (hP : va_P D CL (wAll cA h1 h2 h3 k1 k2) H) : va_P D CL (WS cA (adA (wAll cA h1 h2 h3 k1 k2) adK adV) σ0) H := by
  intro k q hq
  obtain ⟨e, he, rfl⟩ := WSg_of hq
  have hk : k < 171 := by rw [← SH_len]; exact (List.getElem?_eq_some_iff.mp he).1
  by_cases c0 : k < 20
  · exact wAll_0 hP k e he (by omega) c0
  by_cases c20 : k < 40
  · exact wAll_20 hP k e he (by omega) c20
  by_cases c40 : k < 60
  · exact wAll_40 hP k e he (by omega) c40
  by_cases c60 : k < 80
  · exact wAll_60 hP k e he (by omega) c60
  by_cases c80 : k < 100
  · exact wAll_80 hP k e he (by omega) c80
  by_cases c100 : k < 120
  · exact wAll_100 hP k e he (by omega) c100
  by_cases c120 : k < 140
  · exact wAll_120 hP k e he (by omega) c120
  by_cases c140 : k < 160
  · exact wAll_140 hP k e he (by omega) c140
  by_cases c160 : k < 171
  · exact wAll_160 hP k e he (by omega) c160
  · omega
