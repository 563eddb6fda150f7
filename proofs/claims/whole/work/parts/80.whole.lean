theorem ad_0 {cA : Nat → ClassId} {h1 h2 h3 : Nat} {k1 k2 adK adV : Nat → Nat} : adA (wAll cA h1 h2 h3 k1 k2) adK adV 0 = h1 ∧ adA (wAll cA h1 h2 h3 k1 k2) adK adV 123 = h2 ∧ adA (wAll cA h1 h2 h3 k1 k2) adK adV 170 = h3 := ⟨rfl, rfl, rfl⟩
theorem adA_K {w : va_W} {adK adV : Nat → Nat} {i : Nat} (h : i < 3) : adA w adK adV (1000 + i) = adK i := by
  unfold adA
  rw [if_neg (by omega), if_pos (by omega)]
  exact congrArg adK (Nat.add_sub_cancel_left _ _)
theorem adA_V {w : va_W} {adK adV : Nat → Nat} {i : Nat} : adA w adK adV (1010 + i) = adV i := by
  unfold adA
  rw [if_neg (by omega), if_neg (by omega)]
  exact congrArg adV (Nat.add_sub_cancel_left _ _)
theorem vkS_cg {len : List Nat} {byt : List (List Int32)} {N : Nat} {f f' g g' : Nat → Nat} {A : Nat → Prop} {s : State} {H : Heap} (h : vk_S N len byt f g A s H) (e1 : ∀ i, i < N → f' i = f i) (e2 : ∀ i, g' i = g i) : vk_S N len byt f' g' A s H := by
  have e3 : g' = g := funext e2
  subst e3
  refine ⟨fun i hi => ?_, fun i j hi hj e => h.2 i j hi hj ?_⟩
  · rw [e1 i hi]
    exact h.1 i hi
  · rw [← e1 i hi, ← e1 j hj]
    exact e
set_option maxHeartbeats 4000000 in
set_option maxRecDepth 100000 in
/-- THE LAW, from its entry -/
theorem whole_start {p : Program} {e : Env} {s : State} {m : MethodId} {below : List Frame} {meth : Method} {c : Code} (l : Launch) (hflags : l.flags = flags0) {b L : Nat} {xs : Nat → Int32} (hL : L ≤ 3072) (C0 : lw_At p s m meth c b L xs) : W p l e room_1 s m #[Value.ref b] below meth c s.heap [] 0 0 (lw_Z below #[Value.ref b] s) (entryFrame m ([Value.ref b] : List Value).toArray 7) := by
  obtain ⟨hx, hb, hr, hml, hown, hts, hX, hbl, hlocks, hgv⟩ := id C0
  obtain ⟨D, cA, hK⟩ := cl_start hts
  obtain ⟨adK, adV, hkR, hkS⟩ := txt_start hts hgv
  have hg := gw_start hts
  have hn := nw_start hts
  have hst := str_start hts hgv
  have hnc := nc_start hgv
  have hlT : l.stackTraces = false := by
    unfold Launch.stackTraces
    rw [hflags]
    decide
  have hA : ∀ q : Nat, s.heap.size ≤ q → (fun q : Nat => s.heap.size ≤ q) q := fun _ h => h
  have hbA : ¬ (fun q : Nat => s.heap.size ≤ q) b := Nat.not_le.mpr hbl
  have hl0 := loc_entry [Value.ref b] (n := 7) (j := 6) (fun v hv => by rw [List.mem_singleton.mp hv]; rfl) (Nat.le_of_ble_eq_true rfl)
  rw [lg_entry_eq]
  have hb0 : bX (p, l, e, room_1, s, m, #[Value.ref b], below, meth, c, D, cA, (fun _ => 0), (fun q => s.heap.size ≤ q), lw_Z below #[Value.ref b] s) cL_law RL 7 20 10830 603072 7186538 :=
    ⟨⟨hx, hb, hml, hown, hg⟩, Nat.le_refl _, Nat.le_refl _, Nat.le_refl _, Nat.le_refl _, hK, hA, hlocks, hn, va_AO.of (hts _ (List.mem_append_right _ (tb1 (i := 45) rfl)))⟩
  refine law_begin hb0 (b := b) ?_ s.heap [] _ (fun k q h => by simp at h) ⟨fun i j p q h => by simp at h, fun k q h => by simp at h⟩ va_S.rf hl0
  intro h1 h2 h3 k1 k2 cs hcs H locs ls hP hD hS hl
  have hlen : (wAll cA h1 h2 h3 k1 k2).length = 171 := wAll_len
  have hP2 := wAll_ok (adK := adK) (adV := adV) hP
  have hij := ad_inj (adK := adK) (adV := adV) hlen hD
  have hAd := ad_A (adK := adK) (adV := adV) hlen hD
  have hsX : sX (p, l, e, room_1, s, m, #[Value.ref b], below, meth, c, D, cA, adA (wAll cA h1 h2 h3 k1 k2) adK adV, (fun q => s.heap.size ≤ q), lw_Z below #[Value.ref b] s) cL_law RL 7 20 10830 :=
    ⟨⟨hx, hb, hml, hown, hg⟩, Nat.le_refl _, Nat.le_refl _, ⟨hK, hij, hAd, hn, hst, fun i hi => by rw [adA_K hi]; exact hkR i hi⟩, xt_start hts hgv (vkS_cg hkS (fun i hi => adA_K hi) (fun i => adA_V)), hA, hlocks⟩
  exact p_law hsX hlT ⟨Nat.le_refl _, Nat.le_refl _⟩ hnc (b := b) (Ln := L) (xs := xs) ⟨hX, hbl, hbA⟩ (fun cs σ pc L h9 hd H locs ls _ hS9 _ => va_forget (fun q hq => hS9.2.2 q hq) (W.widen h9.1 h9.2 (lw_ret hx hb hr hlocks hd))) FU (σ0, 0) 1 (law_true xs L hL) rfl cs ⟨by have := hcs.1; show cs.1 + 2000 ≤ 603072; omega, by have := hcs.2; show cs.2 + 6 * 2000 ≤ 7186538; omega⟩ H locs ls hP2 hS hl
