/-! reading: "if" and "stop" -/
def If5 (σ14 : Mm) : Option Mm := bn2 (fX10_blockDigit σ14) fun r15 σ16 => bd (upm σ16 123 (upd (σ16 123) 54 r15)) fun σ17 => some σ17
def If4 (σ12 : Mm) : Option Mm := bn2 (fX10_blank σ12) fun r13 σ14 => If5 σ14
def If3 (σ9 : Mm) : Option Mm := bn2 (fX10_blockDigit σ9) fun r10 σ11 => bd (upm σ11 123 (upd (σ11 123) 53 r10)) fun σ12 => If4 σ12
def If2 (σ7 : Mm) : Option Mm := bn2 (fX10_blank σ7) fun r8 σ9 => If3 σ9
def If1 (σ4 : Mm) : Option Mm := bn2 (fX10_variable σ4) fun r5 σ6 => bd (upm σ6 123 (upd (σ6 123) 52 r5)) fun σ7 => If2 σ7
theorem If_eq {σ : Mm} : fX10_readIf σ = bd (upm σ 123 (upd (σ 123) 44 ((σ 123 44) + 2))) fun σ1 => bn2 (fX10_blank σ1) fun r2 σ3 => bd (upm σ3 123 (upd (σ3 123) 51 1)) fun σ4 => If1 σ4 := rfl
theorem If5_w {σ0 τ0 σ τ : Mm} {n p : Nat} (h : WRg σ0 τ0 n p σ τ) : ∃ τ', If5 τ = some τ' ∧ WRg σ0 τ0 n p σ τ' := by
  unfold If5
  rw [m_digW h.2.2.2.2, wM_id h.2.2.2.2]
  exact ⟨_, rfl, h.s3 (by omega)⟩
theorem If4_w {σ0 τ0 σ τ : Mm} {n p : Nat} (h : WRg σ0 τ0 n p σ τ) : ∃ τ', If4 τ = some τ' ∧ WRg σ0 τ0 n p σ τ' := by
  unfold If4
  rw [m_blnW h.2.2.2.2, wM_id h.2.2.2.2]
  exact If5_w h
theorem If3_w {σ0 τ0 σ τ : Mm} {n p : Nat} (h : WRg σ0 τ0 n p σ τ) : ∃ τ', If3 τ = some τ' ∧ WRg σ0 τ0 n p σ τ' := by
  unfold If3
  rw [m_digW h.2.2.2.2, wM_id h.2.2.2.2]
  exact If4_w (h.s3 (i := 53) (x := 0) (by omega))
theorem If2_w {σ0 τ0 σ τ : Mm} {n p : Nat} (h : WRg σ0 τ0 n p σ τ) : ∃ τ', If2 τ = some τ' ∧ WRg σ0 τ0 n p σ τ' := by
  unfold If2
  rw [m_blnW h.2.2.2.2, wM_id h.2.2.2.2]
  exact If3_w h
theorem If1_w {σ0 τ0 σ τ : Mm} {n p : Nat} (h : WRg σ0 τ0 n p σ τ) : ∃ τ', If1 τ = some τ' ∧ WRg σ0 τ0 n p σ τ' := by
  unfold If1
  rw [m_varW h.2.2.2.2, wM_id h.2.2.2.2]
  exact If2_w (h.s3 (i := 52) (x := 0) (by omega))
theorem rd_if {σ0 τ0 σ τ : Mm} {n nb p m : Nat} {c : Nat → Nat} (ho : OKC n c) (hb1 : 1 ≤ nb) (hb8 : nb ≤ 8) (hR : RD σ0 τ0 n c nb p m σ τ) (h0 : sgn n c p = 105) (h1 : sgn n c (p + 1) = 102) : EO σ0 τ0 n c nb m (bn2 (fX8_takeWord_t1 σ) fun r11 σ12 => if r11 = 0 then some (0, σ12) else bn2 (fX8_parseBranch σ12) fun r13 σ14 => if r13 = 0 then some (0, σ14) else some (1, σ14)) (fX10_readIf τ) := by
  obtain ⟨k, k1, k1', k2, k3⟩ := c_w1 ho hR.2.1
  have hl := sg_lt (n := n) (c := c) (q := p + 1) (by omega)
  have R2' := hR.at (q := p + 2) (by omega)
  rw [If_eq, hR.2.2.1.2.1, show nI p + 2 = nI (p + 2) from nI_add p 2]
  simp only [bd]
  rw [show upm τ 123 (upd (τ 123) 44 (nI (p + 2))) = aM τ (p + 2) from rfl, m_bln ho R2'.2.2.1 (by omega) R2'.2.2.2.1]
  have kk : k = 2 ∨ k = 3 := by
    rcases k3 with ⟨e, -⟩ | ⟨e, d, -⟩
    · exact Or.inr e
    · rcases (show k = 0 ∨ k = 1 ∨ k = 2 by omega) with e | e | e
      · subst e; exact absurd h0 d
      · subst e; exact absurd h1 d
      · exact Or.inl e
  rcases kk with e | e
  · subst e
    rcases k3 with ⟨e, -⟩ | ⟨-, d, l⟩
    · omega
    · have d' : ¬ sgn n c (p + 2) = 32 := d
      rw [if_neg d', l]
      simp only [bn2, obs, un2, if_true]
      obtain ⟨τ', e1, e2⟩ := If1_w (R2'.wr.s3 (i := 51) (x := 1) (by omega))
      exact ⟨_, τ', p + 2, false, rfl, e1, Or.inr ⟨rfl, e2⟩⟩
  · subst e
    rcases k3 with ⟨-, l⟩ | ⟨e, -, -⟩
    · have d' : sgn n c (p + 2) = 32 := k2 2 (by omega)
      have R3 := (hR.at (q := p + 3) (by omega)).s3 (i := 51) (x := 1) (by omega)
      rw [if_pos d', l]
      simp only [bn2, obs, un2]
      rw [if_neg (by decide), aM_aM, show upm (aM τ (p + 2 + 1)) 123 (upd (aM τ (p + 2 + 1) 123) 51 1) = s3 (aM τ (p + 3)) 51 1 from rfl]
      generalize hσ3 : aC σ (p + 3) = σ3 at R3
      generalize hτ3 : s3 (aM τ (p + 3)) 51 1 = τ3 at R3
      have t51 : τ3 123 51 = 1 := by rw [← hτ3]; exact s3_s
      unfold fX8_parseBranch If1
      rw [c_takeVar ho R3.2.1, m_var ho R3.2.2.1 (by omega) R3.2.2.2.1]
      by_cases a1 : 97 ≤ sgn n c (p + 3) ∧ sgn n c (p + 3) ≤ 108
      · have l3 := sg_lt (n := n) (c := c) (q := p + 3) (by omega)
        rw [if_pos a1, if_pos a1]
        simp only [bn2, obs, un2, bd]
        rw [if_neg (nI_ne_m1 (by omega))]
        generalize hv' : sgn n c (p + 3) - 97 = v
        have hv : v < 12 := by omega
        have R4' := (R3.at (q := p + 4) (by omega)).s3 (i := 52) (x := nI v) (by omega)
        rw [show upm (aM τ3 (p + 3 + 1)) 123 (upd (aM τ3 (p + 3 + 1) 123) 52 (nI v)) = s3 (aM τ3 (p + 4)) 52 (nI v) from rfl, show p + 3 + 1 = p + 4 from rfl]
        generalize hσ4 : aC σ3 (p + 4) = σ4 at R4'
        generalize hτ4 : s3 (aM τ3 (p + 4)) 52 (nI v) = τ4 at R4'
        have u51 : τ4 123 51 = 1 := by rw [← hτ4, s3_i (by omega), aM_i (by omega)]; exact t51
        have u52 : τ4 123 52 = nI v := by rw [← hτ4]; exact s3_s
        unfold If2
        rw [show (32 : Int32) = nI 32 from rfl, c_take ho R4'.2.1 (by omega) (by omega), m_bln ho R4'.2.2.1 (by omega) R4'.2.2.2.1]
        by_cases a2 : sgn n c (p + 4) = 32
        · have l4 := sg_lt (n := n) (c := c) (q := p + 4) (by omega)
          have R5 := R4'.at (q := p + 5) (by omega)
          rw [if_pos a2, if_pos a2]
          simp only [bn2, obs, un2]
          rw [if_neg (by decide), show p + 4 + 1 = p + 5 from rfl]
          generalize hσ5 : aC σ4 (p + 5) = σ5 at R5
          generalize hτ5 : aM τ4 (p + 5) = τ5 at R5
          have v51 : τ5 123 51 = 1 := by rw [← hτ5, aM_i (by omega)]; exact u51
          have v52 : τ5 123 52 = nI v := by rw [← hτ5, aM_i (by omega)]; exact u52
          unfold If3
          rw [c_takeBl ho hb1 hb8 R5.2.1, m_dig ho hb1 hb8 R5.2.2.1 (by omega) R5.2.2.2.1]
          by_cases a3 : 48 ≤ sgn n c (p + 5) ∧ sgn n c (p + 5) < 48 + nb
          · have l5 := sg_lt (n := n) (c := c) (q := p + 5) (by omega)
            rw [if_pos a3, if_pos a3]
            simp only [bn2, obs, un2, bd]
            rw [if_neg (nI_ne_m1 (by omega))]
            generalize hf' : sgn n c (p + 5) - 48 = f
            have hf : f < nb := by omega
            have R6 := (R5.at (q := p + 6) (by omega)).s3 (i := 53) (x := nI f) (by omega)
            rw [show upm (aM τ5 (p + 5 + 1)) 123 (upd (aM τ5 (p + 5 + 1) 123) 53 (nI f)) = s3 (aM τ5 (p + 6)) 53 (nI f) from rfl, show p + 5 + 1 = p + 6 from rfl]
            generalize hσ6 : aC σ5 (p + 6) = σ6 at R6
            generalize hτ6 : s3 (aM τ5 (p + 6)) 53 (nI f) = τ6 at R6
            have x51 : τ6 123 51 = 1 := by rw [← hτ6, s3_i (by omega), aM_i (by omega)]; exact v51
            have x52 : τ6 123 52 = nI v := by rw [← hτ6, s3_i (by omega), aM_i (by omega)]; exact v52
            have x53 : τ6 123 53 = nI f := by rw [← hτ6]; exact s3_s
            unfold If4
            rw [c_take ho R6.2.1 (by omega) (by omega), m_bln ho R6.2.2.1 (by omega) R6.2.2.2.1]
            by_cases a4 : sgn n c (p + 6) = 32
            · have l6 := sg_lt (n := n) (c := c) (q := p + 6) (by omega)
              have R7 := R6.at (q := p + 7) (by omega)
              rw [if_pos a4, if_pos a4]
              simp only [bn2, obs, un2]
              rw [if_neg (by decide), show p + 6 + 1 = p + 7 from rfl]
              unfold If5
              rw [c_takeBl ho hb1 hb8 R7.2.1, m_dig ho hb1 hb8 R7.2.2.1 (by omega) R7.2.2.2.1]
              by_cases a5 : 48 ≤ sgn n c (p + 7) ∧ sgn n c (p + 7) < 48 + nb
              · have l7 := sg_lt (n := n) (c := c) (q := p + 7) (by omega)
                rw [if_pos a5, if_pos a5]
                simp only [bn2, obs, un2, bd]
                rw [c_fd1 (nI_ne_m1 (by omega)) (nI_ne_m1 (by omega)), if_neg (nI_ne_m1 (by omega))]
                simp only [obs, un2]
                generalize hs' : sgn n c (p + 7) - 48 = s
                have hs : s < nb := by omega
                have R8 := (R7.at (q := p + 8) (by omega)).s3 (i := 54) (x := nI s) (by omega)
                refine ⟨fin1 (aC (aC σ6 (p + 7)) (p + 8)) 1 (nI v) (nI f) (nI s), s3 (aM (aM τ6 (p + 7)) (p + 8)) 54 (nI s), p + 8, true, rfl, rfl, Or.inl ⟨rfl, R8.fin, 1, v, f, s, fin_5.1, ?_, ?_, ?_, ?_, ?_, ?_, ?_, by omega, fun _ => hv, fun _ => hf, fun _ => hs⟩⟩
                · rw [fin_5.2.1, if_neg (by decide), if_neg (by decide)]
                · rw [fin_5.2.2.1, if_neg (by decide), if_neg (by decide)]
                · rw [fin_5.2.2.2, if_pos rfl, if_pos rfl]
                · show s3 (aM (aM τ6 (p + 7)) (p + 8)) 54 _ 123 51 = _
                  rw [s3_i (by omega), aM_i (by omega), aM_i (by omega)]; exact x51
                · intro _
                  show s3 (aM (aM τ6 (p + 7)) (p + 8)) 54 _ 123 52 = _
                  rw [s3_i (by omega), aM_i (by omega), aM_i (by omega)]; exact x52
                · intro _
                  show s3 (aM (aM τ6 (p + 7)) (p + 8)) 54 _ 123 53 = _
                  rw [s3_i (by omega), aM_i (by omega), aM_i (by omega)]; exact x53
                · intro _
                  exact s3_s
              · rw [if_neg a5, if_neg a5]
                simp only [bn2, obs, un2, bd]
                rw [c_fd1 (nI_ne_m1 (by omega)) (nI_ne_m1 (by omega)), if_pos rfl]
                simp only [obs, un2]
                exact ⟨_, _, p + 7, false, rfl, rfl, Or.inr ⟨rfl, R7.wr.s3 (by omega)⟩⟩
            · rw [if_neg a4, if_neg a4]
              simp only [bn2, obs, un2, if_true]
              obtain ⟨τ', e1, e2⟩ := If5_w R6.wr
              exact ⟨_, τ', p + 6, false, rfl, e1, Or.inr ⟨rfl, e2⟩⟩
          · rw [if_neg a3, if_neg a3]
            simp only [bn2, obs, un2, if_true, bd]
            obtain ⟨τ', e1, e2⟩ := If4_w (R5.wr.s3 (i := 53) (x := 0) (by omega))
            exact ⟨_, τ', p + 5, false, rfl, e1, Or.inr ⟨rfl, e2⟩⟩
        · rw [if_neg a2, if_neg a2]
          simp only [bn2, obs, un2, if_true]
          obtain ⟨τ', e1, e2⟩ := If3_w R4'.wr
          exact ⟨_, τ', p + 4, false, rfl, e1, Or.inr ⟨rfl, e2⟩⟩
      · rw [if_neg a1, if_neg a1]
        simp only [bn2, obs, un2, if_true, bd]
        obtain ⟨τ', e1, e2⟩ := If2_w (R3.wr.s3 (i := 52) (x := 0) (by omega))
        exact ⟨_, τ', p + 3, false, rfl, e1, Or.inr ⟨rfl, e2⟩⟩
    · omega
/-! "stop" -/
def St6 (σ11 : Mm) : Option Mm := bn2 (fX10_variable σ11) fun r12 σ13 => bd (upm σ13 123 (upd (σ13 123) 52 r12)) fun σ14 => some σ14
def St5 (σ8 : Mm) : Option Mm := bn2 (fX10_blank σ8) fun r9 σ10 => bd (upm σ10 123 (upd (σ10 123) 51 2)) fun σ11 => St6 σ11
def St4 (σ6 : Mm) : Option Mm := bn2 (fX10_takes σ6 112 112) fun r7 σ8 => St5 σ8
def St3 (σ4 : Mm) : Option Mm := bn2 (fX10_takes σ4 111 111) fun r5 σ6 => St4 σ6
def St2 (σ2 : Mm) : Option Mm := bn2 (fX10_takes σ2 116 116) fun r3 σ4 => St3 σ4
theorem St_eq {σ : Mm} : fX10_readStop σ = bn2 (fX10_takes σ 115 115) fun r1 σ2 => St2 σ2 := rfl
theorem St6_w {σ0 τ0 σ τ : Mm} {n p : Nat} (h : WRg σ0 τ0 n p σ τ) : ∃ τ', St6 τ = some τ' ∧ WRg σ0 τ0 n p σ τ' := by
  unfold St6
  rw [m_varW h.2.2.2.2, wM_id h.2.2.2.2]
  exact ⟨_, rfl, h.s3 (by omega)⟩
theorem St5_w {σ0 τ0 σ τ : Mm} {n p : Nat} (h : WRg σ0 τ0 n p σ τ) : ∃ τ', St5 τ = some τ' ∧ WRg σ0 τ0 n p σ τ' := by
  unfold St5
  rw [m_blnW h.2.2.2.2, wM_id h.2.2.2.2]
  exact St6_w (h.s3 (i := 51) (x := 2) (by omega))
theorem St4_w {σ0 τ0 σ τ : Mm} {n p : Nat} (h : WRg σ0 τ0 n p σ τ) : ∃ τ', St4 τ = some τ' ∧ WRg σ0 τ0 n p σ τ' := by
  unfold St4
  rw [m_takesW h.2.2.2.2 (by decide), wM_id h.2.2.2.2]
  exact St5_w h
theorem St3_w {σ0 τ0 σ τ : Mm} {n p : Nat} (h : WRg σ0 τ0 n p σ τ) : ∃ τ', St3 τ = some τ' ∧ WRg σ0 τ0 n p σ τ' := by
  unfold St3
  rw [m_takesW h.2.2.2.2 (by decide), wM_id h.2.2.2.2]
  exact St4_w h
theorem St2_w {σ0 τ0 σ τ : Mm} {n p : Nat} (h : WRg σ0 τ0 n p σ τ) : ∃ τ', St2 τ = some τ' ∧ WRg σ0 τ0 n p σ τ' := by
  unfold St2
  rw [m_takesW h.2.2.2.2 (by decide), wM_id h.2.2.2.2]
  exact St3_w h
theorem rd_stop {σ0 τ0 σ τ : Mm} {n nb p m : Nat} {c : Nat → Nat} (ho : OKC n c) (hR : RD σ0 τ0 n c nb p m σ τ) (h0 : sgn n c p = 115) : EO σ0 τ0 n c nb m (bn2 (fX8_takeWord_t2 σ) fun r3 σ4 => if r3 = 0 then some (0, σ4) else bn2 (fX8_takeVariable σ4) fun r5 σ6 => bn2 (fX8_finishDraft σ6 2 r5 (-1) (-1)) fun r7 σ8 => if r7 = 0 then some (0, σ8) else some (1, σ8)) (fX10_readStop τ) := by
  obtain ⟨k, k1, k1', k2, k3⟩ := c_w2 ho hR.2.1
  have hk0 : 1 ≤ k := by
    rcases k3 with ⟨e, -⟩ | ⟨e, d, -⟩
    · omega
    · rcases Nat.eq_zero_or_pos k with e | e
      · subst e; exact absurd h0 d
      · exact e
  have Rk : ∀ j, j ≤ k → RD σ0 τ0 n c nb (p + j) m (aC σ (p + j)) (aM τ (p + j)) := fun j hj => hR.at (by omega)
  have bad : k < 5 → ∀ {τ'}, fX10_readStop τ = some τ' → WRg σ0 τ0 n (p + k) (aC σ (p + k)) τ' → EO σ0 τ0 n c nb m (bn2 (fX8_takeWord_t2 σ) fun r3 σ4 => if r3 = 0 then some (0, σ4) else bn2 (fX8_takeVariable σ4) fun r5 σ6 => bn2 (fX8_finishDraft σ6 2 r5 (-1) (-1)) fun r7 σ8 => if r7 = 0 then some (0, σ8) else some (1, σ8)) (fX10_readStop τ) := by
    intro hk τ' e1 e2
    rcases k3 with ⟨e, -⟩ | ⟨-, -, l⟩
    · omega
    · rw [l]
      exact ⟨_, τ', p + k, false, rfl, e1, Or.inr ⟨rfl, e2⟩⟩
  have mis : k < 5 → sgn n c (p + k) ≠ w2 k := fun hk => by
    rcases k3 with ⟨e, -⟩ | ⟨-, d, -⟩
    · omega
    · exact d
  have s1 : fX10_takes τ 115 115 = some (0, aM τ (p + 1)) := by
    rw [show (115 : Int32) = nI 115 from rfl, m_tk1 ho hR.2.2.1 hR.2.1.2.2.2.1 hR.2.2.2.1 (by omega) (by omega), if_pos h0]
  have e1 : fX10_readStop τ = St2 (aM τ (p + 1)) := by
    rw [St_eq, s1]; rfl
  have R1 := Rk 1 hk0
  by_cases c1 : sgn n c (p + 1) = 116
  · have s2 : fX10_takes (aM τ (p + 1)) 116 116 = some (0, aM τ (p + 2)) := by
      rw [show (116 : Int32) = nI 116 from rfl, m_tk1 ho R1.2.2.1 R1.2.1.2.2.2.1 R1.2.2.2.1 (by omega) (by omega), if_pos c1, aM_aM]
    have e2 : fX10_readStop τ = St3 (aM τ (p + 2)) := by
      rw [e1]; unfold St2; rw [s2]; rfl
    have hk2 : 2 ≤ k := by
      rcases Nat.lt_or_ge k 2 with q | q
      · have e : k = 1 := by omega
        subst e; exact absurd c1 (mis (by omega))
      · exact q
    have R2' := Rk 2 hk2
    by_cases c2 : sgn n c (p + 2) = 111
    · have s3' : fX10_takes (aM τ (p + 2)) 111 111 = some (0, aM τ (p + 3)) := by
        rw [show (111 : Int32) = nI 111 from rfl, m_tk1 ho R2'.2.2.1 R2'.2.1.2.2.2.1 R2'.2.2.2.1 (by omega) (by omega), if_pos c2, aM_aM]
      have e3 : fX10_readStop τ = St4 (aM τ (p + 3)) := by
        rw [e2]; unfold St3; rw [s3']; rfl
      have hk3 : 3 ≤ k := by
        rcases Nat.lt_or_ge k 3 with q | q
        · have e : k = 2 := by omega
          subst e; exact absurd c2 (mis (by omega))
        · exact q
      have R3 := Rk 3 hk3
      by_cases c3 : sgn n c (p + 3) = 112
      · have s4 : fX10_takes (aM τ (p + 3)) 112 112 = some (0, aM τ (p + 4)) := by
          rw [show (112 : Int32) = nI 112 from rfl, m_tk1 ho R3.2.2.1 R3.2.1.2.2.2.1 R3.2.2.2.1 (by omega) (by omega), if_pos c3, aM_aM]
        have e4 : fX10_readStop τ = St5 (aM τ (p + 4)) := by
          rw [e3]; unfold St4; rw [s4]; rfl
        have hk4 : 4 ≤ k := by
          rcases Nat.lt_or_ge k 4 with q | q
          · have e : k = 3 := by omega
            subst e; exact absurd c3 (mis (by omega))
          · exact q
        have R4' := Rk 4 hk4
        by_cases c4 : sgn n c (p + 4) = 32
        · have hk5 : k = 5 := by
            rcases Nat.lt_or_ge k 5 with q | q
            · have e : k = 4 := by omega
              subst e; exact absurd c4 (mis (by omega))
            · omega
          subst hk5
          have R5 := (Rk 5 (by omega)).s3 (i := 51) (x := 2) (by omega)
          have e5 : fX10_readStop τ = St6 (s3 (aM τ (p + 5)) 51 2) := by
            rw [e4]; unfold St5
            rw [m_bln ho R4'.2.2.1 R4'.2.1.2.2.2.1 R4'.2.2.2.1, if_pos c4, aM_aM]; rfl
          rcases k3 with ⟨-, l⟩ | ⟨e, -, -⟩
          · rw [l, e5]
            unfold St6
            simp only [bn2, obs, un2]
            rw [if_neg (by decide), c_takeVar ho R5.2.1, m_var ho R5.2.2.1 R5.2.1.2.2.2.1 R5.2.2.2.1]
            by_cases a1 : 97 ≤ sgn n c (p + 5) ∧ sgn n c (p + 5) ≤ 108
            · have l5 := sg_lt (n := n) (c := c) (q := p + 5) (by omega)
              rw [if_pos a1, if_pos a1]
              simp only [obs, un2, bd]
              rw [c_fd2, if_neg (nI_ne_m1 (by omega))]
              simp only [obs, un2]
              have R6 := (R5.at (q := p + 6) (by omega)).s3 (i := 52) (x := nI (sgn n c (p + 5) - 97)) (by omega)
              refine ⟨_, _, p + 6, true, rfl, rfl, Or.inl ⟨rfl, R6.fin, 2, sgn n c (p + 5) - 97, 0, 0, fin_5.1, ?_, ?_, ?_, ?_, ?_, ?_, ?_, by omega, fun _ => by omega, fun q => absurd rfl q, fun q => by omega⟩⟩
              · rw [fin_5.2.1, if_neg (by decide), if_neg (by decide)]
              · rw [fin_5.2.2.1, if_pos rfl, if_pos rfl]
              · rw [fin_5.2.2.2, if_neg (by decide), if_neg (by decide)]
              · show s3 (aM (s3 (aM τ (p + 5)) 51 2) (p + 6)) 52 _ 123 51 = _
                rw [s3_i (by omega), aM_i (by omega), s3_s]; rfl
              · intro _
                exact s3_s
              · exact fun q => absurd rfl q
              · intro q; omega
            · rw [if_neg a1, if_neg a1]
              simp only [obs, un2, bd]
              rw [c_fd2, if_pos rfl]
              simp only [obs, un2]
              exact ⟨_, _, p + 5, false, rfl, rfl, Or.inr ⟨rfl, R5.wr.s3 (by omega)⟩⟩
          · omega
        · have hk5 : k = 4 := by
            rcases Nat.lt_or_ge 4 k with q | q
            · exact absurd (k2 4 (by omega)) c4
            · omega
          subst hk5
          obtain ⟨τ', x1, x2⟩ := St6_w (R4'.wr.s3 (i := 51) (x := 2) (by omega))
          refine bad (by omega) (τ' := τ') ?_ x2
          rw [e4]; unfold St5
          rw [m_bln ho R4'.2.2.1 R4'.2.1.2.2.2.1 R4'.2.2.2.1, if_neg c4]
          exact x1
      · have hk5 : k = 3 := by
          rcases Nat.lt_or_ge 3 k with q | q
          · exact absurd (k2 3 (by omega)) c3
          · omega
        subst hk5
        obtain ⟨τ', x1, x2⟩ := St5_w R3.wr
        refine bad (by omega) (τ' := τ') ?_ x2
        rw [e3]; unfold St4
        rw [show (112 : Int32) = nI 112 from rfl, m_tk1 ho R3.2.2.1 R3.2.1.2.2.2.1 R3.2.2.2.1 (by omega) (by omega), if_neg c3]
        exact x1
    · have hk5 : k = 2 := by
        rcases Nat.lt_or_ge 2 k with q | q
        · exact absurd (k2 2 (by omega)) c2
        · omega
      subst hk5
      obtain ⟨τ', x1, x2⟩ := St4_w R2'.wr
      refine bad (by omega) (τ' := τ') ?_ x2
      rw [e2]; unfold St3
      rw [show (111 : Int32) = nI 111 from rfl, m_tk1 ho R2'.2.2.1 R2'.2.1.2.2.2.1 R2'.2.2.2.1 (by omega) (by omega), if_neg c2]
      exact x1
  · have hk5 : k = 1 := by
      rcases Nat.lt_or_ge 1 k with q | q
      · exact absurd (k2 1 (by omega)) c1
      · omega
    subst hk5
    obtain ⟨τ', x1, x2⟩ := St3_w R1.wr
    refine bad (by omega) (τ' := τ') ?_ x2
    rw [e1]; unfold St2
    rw [show (116 : Int32) = nI 116 from rfl, m_tk1 ho R1.2.2.1 R1.2.1.2.2.2.1 R1.2.2.2.1 (by omega) (by omega), if_neg c1]
    exact x1
