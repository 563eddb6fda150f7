/-! the machine with a plan: putting -/
theorem eqw {f g : Nat → Int32} {c i : Nat} {x : Int32} (h : f i = g i) : upd f c x i = upd g c x i := by rw [upd_a, upd_a, h]
theorem eqw2 {f g : Nat → Int32} {c : Nat} {x : Int32} : upd f c x c = upd g c x c := by rw [upd_a, upd_a, if_pos rfl, if_pos rfl]
/-- variables in memory that conflict have slots of their own -/
theorem sl_ne {P : Pg} {H : Nat → Int32} (hw : WP P) {u v : Nat} (hu : u < 12) (hv : v < 12) (h1 : H u = 1) (h2 : H v = 1) (hR : hb (RV P u) v = true) (hne : u ≠ v) : sl' P H u ≠ sl' P H v := by
  have hs := (RV_sy hw).1 u v hu hv
  rcases Nat.lt_or_ge u v with c | c
  · exact CG_ne c hv (decide_eq_true h1) (by rw [← hs]; exact hR)
  · exact fun e => CG_ne (show v < u by omega) hu (decide_eq_true h2) hR e.symm
theorem tI_t {P : Pg} (hw : WP P) {b i l : Nat} (hb' : b < P_n P) (hi : i < P_m P b) (h : hb (BD P l) b = true) : hb (tI P (BD P l)) (P_t P b i) = true := by
  have hn := hw.1.2
  have ht := hw.2.2.2.2.2.2.2.2.1 b (by omega) i hi
  unfold tI
  rw [hb_orF]
  refine anyF_iff.mpr ⟨b, hb', ?_⟩
  rw [if_pos h, hb_orF]
  refine anyF_iff.mpr ⟨i, hi, ?_⟩
  rw [hb_b1 (by omega)]
  simp
theorem q_put {σ0 τ0 : Mm} {P : Pg} {H : Nat → Int32} {k : Nat} {T : Nat → Nat → Int32} (ho : OKp P H k T) (hsq : SQ σ0 P H k T) (hsm : SM τ0 P H T) {b i : Nat} {σ τ : Mm} {x : Int32} (hb' : b < P_n P) (hi : i < P_m P b) (hR : RelQ σ0 τ0 P H T b i σ τ) : ∃ σ' τ', fX6_put σ (nI (P_t P b i)) x = some σ' ∧ fX10_puts τ (nI (P_t P b i)) x = some τ' ∧ RelQ σ0 τ0 P H T b (i + 1) σ' τ' ∧ KP σ τ σ' τ' := by
  obtain ⟨h1, h2, h3, h4, h5, h6, h7, h8, h9⟩ := id hR
  have hw := ho.1
  have hn := hw.1.2
  have hs := SQ_fq h1 hsq
  generalize hwt : P_t P b i = w
  have hv : w < 12 := by rw [← hwt]; exact hw.2.2.2.2.2.2.2.2.1 b (by omega) i hi
  have hu : uV P w = true := by rw [← hwt]; exact u_of_t hb' hi
  have keep : ∀ v, v < 12 → v ≠ w → hb (lv P (LV P) b (i + 1)) v = true → hb (lv P (LV P) b i) v = true := fun v hv' hne hl => lv_keep hi (by rw [hwt]; exact hv) hv' (by rw [hwt]; exact hne) hl
  generalize hτa : upm τ 146 (upd (τ 146) w x) = τa
  have Fa : FrM τ0 τa := hτa ▸ h2.up (by simp)
  have ta : ∀ j, j ≠ 146 → τa j = τ j := fun j hj => by rw [← hτa, upm_n hj]
  have ht := SM_fr Fa hsm
  have e98 := hs.1.2.2.2.1 w hv
  have e139 := ht.2.2.2.1 w hv
  have e40 := ht.2.2.2.2.2.2.2
  have eR := c_regIn ho hs (show b < 8 by omega) hv
  have eC := m_colOf ho ht (show b < 8 by omega) hv
  have a39 : τa 123 39 = nI b := by rw [ta 123 (by omega)]; exact h4
  unfold fX6_put fX10_puts
  simp (disch := omega) only [obs, bd, jn, bn2, un2, bn3, un3, bns, nI_1, nI_clamp, gN, gN0, gN1, gN2, gN3, nI_leI, nI_ltI, nI_eq, li_le, li_lt, le_li, lt_li, eq_li, li_eq, li_mul, mul_li, add_li, nI_add, m_has, c_has, hI_0, bI_0, e98]
  rw [hτa, if_neg (show ¬ τa 123 40 = 0 by rw [e40]; decide), h3, a39, e139]
  rcases H_used ho.2.1 hv hu with c | c | ⟨c, cr⟩
  · have cp : PCO P T b w = -1 := by
      rcases PCO_c ho (b := b) hv with ⟨q, -⟩ | ⟨_, _, _, _, _, _, _, q⟩
      · exact q
      · rw [c] at q; exact absurd q (by decide)
    have l1 := co_i (P := P) (H := H) hv
    rw [c, if_neg (by decide), if_neg (by decide), if_pos rfl, eR, cp, if_pos rfl, cv0 c, ht.2.2.2.2.1 w hv, cv0 c]
    simp only [obs]
    rw [if_neg (nI_ne_m1 (by omega)), if_neg (nI_ge0 (by omega))]
    simp (disch := omega) only [obs, bd, jn, bn2, un2, bn3, un3, bns, nI_1, nI_clamp, gN, gN0, gN1, gN2, gN3, nI_leI, nI_ltI, nI_eq, li_le, li_lt, le_li, lt_li, eq_li, li_eq, li_mul, mul_li, add_li, nI_add, m_has, c_has, hI_0, bI_0]
    refine ⟨_, _, rfl, rfl, ⟨h1.up (by simp [SC]), Fa.up (by simp), ?_, ?_, h5, ⟨?_, ?_, ?_⟩, ⟨fun j hj => ?_, ?_, fun u hu' => ?_⟩, fun j u hj hu' hH hp hh hl' => ?_, fun u hu' hl' => ⟨fun hH => ?_, fun hH => ⟨fun l c' a1 a2 a3 a4 => ?_, fun a => ?_⟩⟩⟩, ?_⟩
    · rw [upm_n (by omega)]; exact h3
    · rw [upm_n (by omega)]; exact a39
    · rw [upm_n (by omega), upm_n (by omega), ta 150 (by omega)]; exact h6.1
    · rw [upm_n (by omega), upm_n (by omega), ta 150 (by omega)]; exact h6.2.1
    · rw [upm_n (by omega), upm_n (by omega), ta 150 (by omega)]; exact h6.2.2
    · rw [upm_n (by omega), upm_n (by omega), ta 153 (by omega)]; exact h7.1 j hj
    · rw [upm_n (by omega), upm_n (by omega), ta 123 (by omega)]; exact h7.2.1
    · rw [upm_n (by omega)]; exact h7.2.2 u hu'
    · rw [upm_n (by omega)] at hh
      rw [upm_n (by omega), upm_n (by omega)]
      exact h8 j u hj hu' hH hp hh (keep u hu' (fun e => by rw [e, c] at hH; exact absurd hH (by decide)) hl')
    · rw [upm_s, upm_s, ta 147 (by omega)]
      by_cases q : u = w
      · subst q; exact eqw2
      · exact eqw ((h9 u hu' (keep u hu' q hl')).1 hH)
    · have q : u ≠ w := fun e => by rw [e, c] at hH; exact absurd hH (by decide)
      rw [upm_s, upm_s, ta 147 (by omega)]
      exact eqw (((h9 u hu' (keep u hu' q hl')).2 hH).1 l c' a1 a2 a3 a4)
    · have q : u ≠ w := fun e => by rw [e, c] at hH; exact absurd hH (by decide)
      rw [upm_n (by omega), upm_n (by omega), ta 148 (by omega)]
      exact ((h9 u hu' (keep u hu' q hl')).2 hH).2 a
    · refine ⟨?_, ?_, ?_, ?_⟩
      · rw [upm_n (by omega)]
      · rw [upm_n (by omega)]
      · rw [upm_n (by omega), ta 152 (by omega)]
      · rw [upm_n (by omega), ta 150 (by omega)]
  · rw [c, if_neg (by decide), if_neg (by decide), if_neg (by decide), eR, eC]
    simp only [obs]
    rcases PCO_c ho (b := b) hv with ⟨cp, cn⟩ | ⟨l, cc, q1, q2, q3, q4, q5, -⟩
    · rw [cp, if_pos rfl, cvn (by rw [c]; decide), if_pos rfl, if_pos (by decide)]
      have h7a : SCR σ τa := ⟨fun j hj => by rw [ta 153 (by omega)]; exact h7.1 j hj, by rw [ta 123 (by omega)]; exact h7.2.1, h7.2.2⟩
      obtain ⟨ch, w', k1, k2, k3, k4, k5⟩ := hold1 h7a hv
      have ls := sl_i (P := P) (H := H) hv
      have e100 := hs.2.1 w hv
      rw [cv1 c] at e100
      have e141 := ht.2.2.2.2.2.1 w hv
      rw [cv1 c] at e141
      generalize hτ1 : upm (upm τa 153 (upd (τa 153) ch (nI w))) 123 (upd (τa 123) 38 (1 - nI ch)) = τ1 at k4
      have t153 : ∀ j, τ1 153 j = if j = ch then nI w else τ 153 j := fun j => by rw [← hτ1, upm_n (by omega), upm_s, upd_a, ta 153 (by omega)]
      have t123 : ∀ j, j ≠ 38 → τ1 123 j = τ 123 j := fun j hj => by rw [← hτ1, upm_s, upd_a, if_neg hj, ta 123 (by omega)]
      have t38 : τ1 123 38 = 1 - nI ch := by rw [← hτ1, upm_s, upd_a, if_pos rfl]
      have tn : ∀ j, j ≠ 153 → j ≠ 123 → j ≠ 146 → τ1 j = τ j := fun j a b c => by rw [← hτ1, upm_n b, upm_n a, ta j c]
      have F1 : FrM τ0 τ1 := by
        have a1 : FrM τ0 (upm τa 153 (upd (τa 153) ch (nI w))) := Fa.up (by simp)
        have a2 := a1.u3 (i := 38) (x := 1 - nI ch) (Or.inl rfl)
        rw [upm_n (show (123 : Nat) ≠ 153 by omega), hτ1] at a2
        exact a2
      have rec' : ∀ s : Mm, s 107 13 = nI ch → ((s 107 13 = 1 ∧ τ1 123 38 = 0) ∨ (s 107 13 = 0 ∧ τ1 123 38 = 1)) := fun s hs' => by
        rw [hs', t38]
        rcases (show ch = 0 ∨ ch = 1 by omega) with e | e
        · subst e; exact Or.inr ⟨rfl, rfl⟩
        · subst e; exact Or.inl ⟨rfl, rfl⟩
      unfold fX6_putInMemory
      rw [k2, k4]
      simp (disch := omega) only [obs, bd, jn, bn2, un2, bn3, un3, bns, nI_1, nI_clamp, gN, gN0, gN1, gN2, gN3, nI_leI, nI_ltI, nI_eq, li_le, li_lt, le_li, lt_li, eq_li, li_eq, li_mul, mul_li, add_li, nI_add, m_has, c_has, hI_0, bI_0]
      rw [upm_n (show (100 : Nat) ≠ 107 by omega), upm_n (show (100 : Nat) ≠ 111 by omega), upm_n (show (100 : Nat) ≠ 112 by omega), e100, tn 141 (by omega) (by omega) (by omega), ← ta 141 (by omega), e141]
      simp (disch := omega) only [obs, bd, jn, bn2, un2, bn3, un3, bns, nI_1, nI_clamp, gN, gN0, gN1, gN2, gN3, nI_leI, nI_ltI, nI_eq, li_le, li_lt, le_li, lt_li, eq_li, li_eq, li_mul, mul_li, add_li, nI_add, m_has, c_has, hI_0, bI_0]
      rw [show Int32.toNatClampNeg 2 = 2 from rfl]
      have F2 : FrM τ0 (upm τ1 148 (upd (τ1 148) (sl' P H w) x)) := F1.up (by simp)
      refine ⟨_, _, rfl, rfl, ⟨?_, F2.up (by simp), ?_, ?_, h5, ⟨?_, ?_, ?_⟩, ⟨fun j hj => ?_, ?_, fun u hu' => ?_⟩, fun j u hj hu' hH hp hh hl' => ?_, fun u hu' hl' => ⟨fun hH => ?_, fun hH => ⟨fun l c' a1 a2 a3 a4 => ?_, fun a => ?_⟩⟩⟩, ?_⟩
      · exact ((((h1.up (by simp [SC])).up (by simp [SC])).up (by simp [SC])).up (by simp [SC])).up (by simp [SC])
      · simp (disch := omega) only [upm_s, upm_n, ne_eq, upd_a, if_neg]; exact h3
      · simp (disch := omega) only [upm_n, ne_eq]; rw [t123 39 (by omega)]; exact h4
      · simp (disch := omega) only [upm_s, upm_n, ne_eq, upd_a, if_neg]
        rw [tn 150 (by omega) (by omega) (by omega)]; exact h6.1
      · simp (disch := omega) only [upm_s, upm_n, ne_eq, upd_a, if_neg, if_true]
        rw [tn 150 (by omega) (by omega) (by omega), h6.2.1]
      · simp (disch := omega) only [upm_s, upm_n, ne_eq, upd_a, if_neg]
        rw [tn 150 (by omega) (by omega) (by omega)]; exact h6.2.2
      · simp (disch := omega) only [upm_s, upm_n, ne_eq, upd_a]
        rw [t153, h7.1 j hj]
      · simp (disch := omega) only [upm_n, ne_eq]
        exact rec' _ (by simp (disch := omega) only [upm_s, upm_n, ne_eq, upd_a, if_true, if_neg])
      · simp (disch := omega) only [upm_s, upm_n, ne_eq, upd_a]
        rintro ⟨q1, q2⟩
        rcases (show ch = 0 ∨ ch = 1 by omega) with e | e
        · subst e
          rw [if_pos rfl] at q1
          rw [if_neg (by omega)] at q2
          exact k5 1 (by omega) (by omega) (q2.trans q1.symm)
        · subst e
          rw [if_neg (by omega)] at q1
          rw [if_pos rfl] at q2
          exact k5 0 (by omega) (by omega) (q1.trans q2.symm)
      · simp (disch := omega) only [upm_s, upm_n, ne_eq, upd_a] at hh ⊢
        by_cases q : j = ch
        · rw [if_pos q] at hh
          rw [if_pos q, ← (nI_eq (by omega) (by omega)).mp hh, if_pos rfl]
        · rw [if_neg q] at hh
          rw [if_neg q]
          have hne : u ≠ w := fun e => by subst e; exact k5 j hj q hh
          have hne2 : sl' P H u ≠ sl' P H w := fun e => by
            have hRV : hb (RV P w) u = true := by
              rw [← hwt]
              exact RV_set hw hb' hi hu' (by rw [hwt]; exact hne) hl'
            exact sl_ne hw hv hu' c hH hRV (Ne.symm hne) e.symm
          rw [if_neg hne2]
          exact h8 j u hj hu' hH hp hh (keep u hu' hne hl')
      · have q : u ≠ w := fun e => by rw [e, c] at hH; exact absurd hH (by decide)
        simp (disch := omega) only [upm_n, ne_eq]
        rw [tn 147 (by omega) (by omega) (by omega)]; exact (h9 u hu' (keep u hu' q hl')).1 hH
      · have q : u ≠ w := fun e => by
          subst e
          have := cn l a1 (by rw [a2]; exact nI_ne_m1 (by omega))
          rw [this] at a4; cases a4
        simp (disch := omega) only [upm_n, ne_eq]
        rw [tn 147 (by omega) (by omega) (by omega)]; exact ((h9 u hu' (keep u hu' q hl')).2 hH).1 l c' a1 a2 a3 a4
      · simp (disch := omega) only [upm_s, upm_n, ne_eq]
        rw [tn 148 (by omega) (by omega) (by omega)]
        by_cases q : u = w
        · subst q; exact eqw2
        · exact eqw (((h9 u hu' (keep u hu' q hl')).2 hH).2 a)
      · refine ⟨?_, ?_, ?_, ?_⟩
        · simp (disch := omega) only [upm_n, ne_eq]
        · simp (disch := omega) only [upm_s, upm_n, ne_eq, upd_a, if_neg]
        · simp (disch := omega) only [upm_n, ne_eq]; rw [tn 152 (by omega) (by omega) (by omega)]
        · simp (disch := omega) only [upm_s, upm_n, ne_eq, upd_a, if_neg]; rw [tn 150 (by omega) (by omega) (by omega)]
    · rw [q5, if_neg (nI_ne_m1 (by omega)), if_neg (nI_ne_m1 (by omega)), if_neg (nI_ge0 (by omega))]
      simp (disch := omega) only [obs, bd, jn, bn2, un2, bn3, un3, bns, nI_1, nI_clamp, gN, gN0, gN1, gN2, gN3, nI_leI, nI_ltI, nI_eq, li_le, li_lt, le_li, lt_li, eq_li, li_eq, li_mul, mul_li, add_li, nI_add, m_has, c_has, hI_0, bI_0]
      have hTn : T w l ≠ -1 := by rw [q3]; exact nI_ne_m1 (by omega)
      refine ⟨_, _, rfl, rfl, ⟨h1.up (by simp [SC]), Fa.up (by simp), ?_, ?_, h5, ⟨?_, ?_, ?_⟩, ⟨fun j hj => ?_, ?_, fun u hu' => ?_⟩, fun j u hj hu' hH hp hh hl' => ?_, fun u hu' hl' => ⟨fun hH => ?_, fun hH => ⟨fun l' c' a1 a2 a3 a4 => ?_, fun a => ?_⟩⟩⟩, ?_⟩
      · rw [upm_n (by omega)]; exact h3
      · rw [upm_n (by omega)]; exact a39
      · rw [upm_n (by omega), upm_n (by omega), ta 150 (by omega)]; exact h6.1
      · rw [upm_n (by omega), upm_n (by omega), ta 150 (by omega)]; exact h6.2.1
      · rw [upm_n (by omega), upm_n (by omega), ta 150 (by omega)]; exact h6.2.2
      · rw [upm_n (by omega), upm_n (by omega), ta 153 (by omega)]; exact h7.1 j hj
      · rw [upm_n (by omega), upm_n (by omega), ta 123 (by omega)]; exact h7.2.1
      · rw [upm_n (by omega)]; exact h7.2.2 u hu'
      · have q : u ≠ w := fun e => by
          subst e
          rw [q5] at hp
          exact nI_ne_m1 (by omega) hp
        rw [upm_n (by omega)] at hh
        rw [upm_n (by omega), upm_n (by omega)]
        exact h8 j u hj hu' hH hp hh (keep u hu' q hl')
      · have q : u ≠ w := fun e => by rw [e, c] at hH; exact absurd hH (by decide)
        rw [upm_s, upm_s, ta 147 (by omega)]
        exact eqw ((h9 u hu' (keep u hu' q hl')).1 hH)
      · rw [upm_s, upm_s, ta 147 (by omega)]
        by_cases q : u = w
        · subst q
          have := T_one hw ho.2.2.2.1 hu' a1 q1 (by rw [a2]; exact nI_ne_m1 (by omega)) hTn a4 q4
          subst this
          rw [q3] at a2
          have := (nI_eq (by omega) (by omega)).mp a2
          subst this
          exact eqw2
        · exact eqw (((h9 u hu' (keep u hu' q hl')).2 hH).1 l' c' a1 a2 a3 a4)
      · have q : u ≠ w := fun e => by
          subst e
          have b1' := a l q1 hTn q4
          rw [← hwt, tI_t hw hb' hi q4] at b1'
          cases b1'
        rw [upm_n (by omega), upm_n (by omega), ta 148 (by omega)]
        exact ((h9 u hu' (keep u hu' q hl')).2 hH).2 a
      · refine ⟨?_, ?_, ?_, ?_⟩
        · rw [upm_n (by omega)]
        · rw [upm_n (by omega)]
        · rw [upm_n (by omega), ta 152 (by omega)]
        · rw [upm_n (by omega), ta 150 (by omega)]
  · rw [c, if_pos rfl, if_pos rfl]
    refine ⟨σ, τa, rfl, rfl, ⟨h1, Fa, h3, a39, h5, ⟨?_, ?_, ?_⟩, ⟨fun j hj => ?_, ?_, h7.2.2⟩, fun j u hj hu' hH hp hh hl' => ?_, fun u hu' hl' => ⟨fun hH => ?_, fun hH => ⟨fun l c' a1 a2 a3 a4 => ?_, fun a => ?_⟩⟩⟩, rfl, rfl, ?_, ?_⟩
    · rw [ta 150 (by omega)]; exact h6.1
    · rw [ta 150 (by omega)]; exact h6.2.1
    · rw [ta 150 (by omega)]; exact h6.2.2
    · rw [ta 153 (by omega)]; exact h7.1 j hj
    · rw [ta 123 (by omega)]; exact h7.2.1
    · exact h8 j u hj hu' hH hp hh (keep u hu' (fun e => by rw [e, c] at hH; exact absurd hH (by decide)) hl')
    · rw [ta 147 (by omega)]
      exact (h9 u hu' (keep u hu' (fun e => by rw [e, c] at hH; exact absurd hH (by decide)) hl')).1 hH
    · rw [ta 147 (by omega)]
      exact ((h9 u hu' (keep u hu' (fun e => by rw [e, c] at hH; exact absurd hH (by decide)) hl')).2 hH).1 l c' a1 a2 a3 a4
    · rw [ta 148 (by omega)]
      exact ((h9 u hu' (keep u hu' (fun e => by rw [e, c] at hH; exact absurd hH (by decide)) hl')).2 hH).2 a
    · rw [ta 152 (by omega)]
    · rw [ta 150 (by omega)]
