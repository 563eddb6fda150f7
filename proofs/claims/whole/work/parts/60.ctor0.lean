/-! the making of the world: worlds as lists of cells at addresses that are variables -/
def scA (X : sT) : Nat → ClassId := X.2.2.2.2.2.2.2.2.2.2.2.1
def bX (X : sT) (cc : ByteArray) (own : String) (nL fr lo mc ms : Nat) : Prop := match X with
  | (p, _, _, R, s, m, args, _, meth, c, D, cA, _, A, _) => (p.tables.exec = Jvm.exec ∧ c.code = cc ∧ c.maxLocals = nL ∧ s.vm.findClass own = some m.cls ∧ (∀ w ∈ GW, w.before args s = true)) ∧ fr ≤ R.frames ∧ lo ≤ R.locals ∧ mc ≤ R.cells ∧ ms ≤ R.slots ∧ va_K D CL (TY cA) s ∧ (∀ q, s.heap.size ≤ q → A q) ∧ meth.locks = false ∧ (∀ w ∈ NW, va_Nw w s) ∧ va_AO RX0 s
def bIn (X : sT) : Prop := X.2.2.2.2.2.2.2.2.1.name = "<init>"
def bW (X : sT) (nL : Nat) (cs : Nat × Nat) (w : va_W) (pc : Nat) (L : List (Option Value)) (st : List Value) : Prop := match X with
  | (p, l, e, R, s, m, args, below, meth, c, D, _, _, A, Q) => ∀ (H : Heap) (locs : List Loc) (ls : Array Slot), va_P D CL w H → va_D A w → va_S A s.heap H locs → loc ls nL L → W p l e R s m args below meth c H locs cs.1 cs.2 Q (F0 m pc ls st)
theorem b_eq {X : sT} {nL : Nat} {cs : Nat × Nat} {w : va_W} (w' : va_W) {pc : Nat} {L : List (Option Value)} {st : List Value} (h : w = w') (k : bW X nL cs w' pc L st) : bW X nL cs w pc L st := h ▸ k
theorem b_mask {X : sT} {nL : Nat} {cs : Nat × Nat} {w : va_W} {pc : Nat} {L : List (Option Value)} {st : List Value} (b : List Bool) (k : bW X nL cs w pc (lmk b L) st) : bW X nL cs w pc L st := by
  obtain ⟨p, l, e, R, s, m, args, below, meth, c, D, cA, ad, A, Q⟩ := X
  intro H locs ls hP hD hS hl
  exact k H locs ls hP hD hS (hl.mask b)
theorem b_iconst {X : sT} {cc : ByteArray} {own : String} {nL fr lo mc ms : Nat} {cs : Nat × Nat} {w : va_W} {pc : Nat} {L : List (Option Value)} {st : List Value} {n : Int} (v : Int32) (h : bX X cc own nL fr lo mc ms) (d : decode cc pc = .ok (.iconst n, 1)) (hv : Int32.ofInt n = v) (k : bW X nL cs w (pc + 1) L (.int v :: st)) : bW X nL cs w pc L (st) := by
  obtain ⟨p, l, e, R, s, m, args, below, meth, c, D, cA, ad, A, Q⟩ := X
  obtain ⟨⟨hx, hb, hml, hown, hts⟩, hfr, hlo, hmc, hms, hK, hnew, hlk, hnw, hao⟩ := h
  intro H locs ls hP hD hS hl
  exact lv_iconst hx hb d hv (k H locs ls hP hD hS hl)
theorem b_bipush {X : sT} {cc : ByteArray} {own : String} {nL fr lo mc ms : Nat} {cs : Nat × Nat} {w : va_W} {pc : Nat} {L : List (Option Value)} {st : List Value} {n : Int} (v : Int32) (h : bX X cc own nL fr lo mc ms) (d : decode cc pc = .ok (.bipush n, 2)) (hv : (Int8.ofInt n).toInt32 = v) (k : bW X nL cs w (pc + 2) L (.int v :: st)) : bW X nL cs w pc L (st) := by
  obtain ⟨p, l, e, R, s, m, args, below, meth, c, D, cA, ad, A, Q⟩ := X
  obtain ⟨⟨hx, hb, hml, hown, hts⟩, hfr, hlo, hmc, hms, hK, hnew, hlk, hnw, hao⟩ := h
  intro H locs ls hP hD hS hl
  exact lv_bipush hx hb d hv (k H locs ls hP hD hS hl)
theorem b_iload_n {X : sT} {cc : ByteArray} {own : String} {nL fr lo mc ms : Nat} {cs : Nat × Nat} {w : va_W} {pc : Nat} {L : List (Option Value)} {st : List Value} {j : Fin 4} {v : Int32} (h : bX X cc own nL fr lo mc ms) (d : decode cc pc = .ok (.iload_n j, 1)) (hi : lgt L j = some (.int v)) (k : bW X nL cs w (pc + 1) L (.int v :: st)) : bW X nL cs w pc L (st) := by
  obtain ⟨p, l, e, R, s, m, args, below, meth, c, D, cA, ad, A, Q⟩ := X
  obtain ⟨⟨hx, hb, hml, hown, hts⟩, hfr, hlo, hmc, hms, hK, hnew, hlk, hnw, hao⟩ := h
  intro H locs ls hP hD hS hl
  exact lv_iload_n hx hb d rfl (hl.at hi) (k H locs ls hP hD hS hl)
theorem b_iload {X : sT} {cc : ByteArray} {own : String} {nL fr lo mc ms : Nat} {cs : Nat × Nat} {w : va_W} {pc : Nat} {L : List (Option Value)} {st : List Value} {j : Nat} {v : Int32} (h : bX X cc own nL fr lo mc ms) (d : decode cc pc = .ok (.iload j, 2)) (hi : lgt L j = some (.int v)) (k : bW X nL cs w (pc + 2) L (.int v :: st)) : bW X nL cs w pc L (st) := by
  obtain ⟨p, l, e, R, s, m, args, below, meth, c, D, cA, ad, A, Q⟩ := X
  obtain ⟨⟨hx, hb, hml, hown, hts⟩, hfr, hlo, hmc, hms, hK, hnew, hlk, hnw, hao⟩ := h
  intro H locs ls hP hD hS hl
  exact lv_iload hx hb d (hl.at hi) (k H locs ls hP hD hS hl)
theorem b_aload_n {X : sT} {cc : ByteArray} {own : String} {nL fr lo mc ms : Nat} {cs : Nat × Nat} {w : va_W} {pc : Nat} {L : List (Option Value)} {st : List Value} {j : Fin 4} {v : Nat} (h : bX X cc own nL fr lo mc ms) (d : decode cc pc = .ok (.aload_n j, 1)) (hi : lgt L j = some (.ref v)) (k : bW X nL cs w (pc + 1) L (.ref v :: st)) : bW X nL cs w pc L (st) := by
  obtain ⟨p, l, e, R, s, m, args, below, meth, c, D, cA, ad, A, Q⟩ := X
  obtain ⟨⟨hx, hb, hml, hown, hts⟩, hfr, hlo, hmc, hms, hK, hnew, hlk, hnw, hao⟩ := h
  intro H locs ls hP hD hS hl
  exact lv_aload_n hx hb d rfl (hl.at hi) (k H locs ls hP hD hS hl)
theorem b_aload {X : sT} {cc : ByteArray} {own : String} {nL fr lo mc ms : Nat} {cs : Nat × Nat} {w : va_W} {pc : Nat} {L : List (Option Value)} {st : List Value} {j : Nat} {v : Nat} (h : bX X cc own nL fr lo mc ms) (d : decode cc pc = .ok (.aload j, 2)) (hi : lgt L j = some (.ref v)) (k : bW X nL cs w (pc + 2) L (.ref v :: st)) : bW X nL cs w pc L (st) := by
  obtain ⟨p, l, e, R, s, m, args, below, meth, c, D, cA, ad, A, Q⟩ := X
  obtain ⟨⟨hx, hb, hml, hown, hts⟩, hfr, hlo, hmc, hms, hK, hnew, hlk, hnw, hao⟩ := h
  intro H locs ls hP hD hS hl
  exact lv_aload hx hb d (hl.at hi) (k H locs ls hP hD hS hl)
theorem b_dup {X : sT} {cc : ByteArray} {own : String} {nL fr lo mc ms : Nat} {cs : Nat × Nat} {w : va_W} {pc : Nat} {L : List (Option Value)} {st : List Value} {v : Value} (h : bX X cc own nL fr lo mc ms) (d : decode cc pc = .ok (.dup, 1)) (hc : v.category = 1) (k : bW X nL cs w (pc + 1) L (v :: v :: st)) : bW X nL cs w pc L (v :: st) := by
  obtain ⟨p, l, e, R, s, m, args, below, meth, c, D, cA, ad, A, Q⟩ := X
  obtain ⟨⟨hx, hb, hml, hown, hts⟩, hfr, hlo, hmc, hms, hK, hnew, hlk, hnw, hao⟩ := h
  intro H locs ls hP hD hS hl
  exact lv_dup hx hb d hc (k H locs ls hP hD hS hl)
theorem b_istore_n {X : sT} {cc : ByteArray} {own : String} {nL fr lo mc ms : Nat} {cs : Nat × Nat} {w : va_W} {pc : Nat} {L : List (Option Value)} {st : List Value} {j : Fin 4} {v : Int32} (h : bX X cc own nL fr lo mc ms) (d : decode cc pc = .ok (.istore_n j, 1)) (hj : (j : Nat) < nL) (k : bW X nL cs w (pc + 1) (lst L j (.int v)) st) : bW X nL cs w pc L (.int v :: st) := by
  obtain ⟨p, l, e, R, s, m, args, below, meth, c, D, cA, ad, A, Q⟩ := X
  obtain ⟨⟨hx, hb, hml, hown, hts⟩, hfr, hlo, hmc, hms, hK, hnew, hlk, hnw, hao⟩ := h
  intro H locs ls hP hD hS hl
  exact lv_istore_n hx hb d rfl hl.1 hj rfl (fun ls' h' => k H locs ls' hP hD hS (loc.st rfl hl.2 h'))
theorem b_istore {X : sT} {cc : ByteArray} {own : String} {nL fr lo mc ms : Nat} {cs : Nat × Nat} {w : va_W} {pc : Nat} {L : List (Option Value)} {st : List Value} {j : Nat} {v : Int32} (h : bX X cc own nL fr lo mc ms) (d : decode cc pc = .ok (.istore j, 2)) (hj : (j : Nat) < nL) (k : bW X nL cs w (pc + 2) (lst L j (.int v)) st) : bW X nL cs w pc L (.int v :: st) := by
  obtain ⟨p, l, e, R, s, m, args, below, meth, c, D, cA, ad, A, Q⟩ := X
  obtain ⟨⟨hx, hb, hml, hown, hts⟩, hfr, hlo, hmc, hms, hK, hnew, hlk, hnw, hao⟩ := h
  intro H locs ls hP hD hS hl
  exact lv_istore hx hb d hl.1 hj rfl (fun ls' h' => k H locs ls' hP hD hS (loc.st rfl hl.2 h'))
theorem b_astore_n {X : sT} {cc : ByteArray} {own : String} {nL fr lo mc ms : Nat} {cs : Nat × Nat} {w : va_W} {pc : Nat} {L : List (Option Value)} {st : List Value} {j : Fin 4} {v : Nat} (h : bX X cc own nL fr lo mc ms) (d : decode cc pc = .ok (.astore_n j, 1)) (hj : (j : Nat) < nL) (k : bW X nL cs w (pc + 1) (lst L j (.ref v)) st) : bW X nL cs w pc L (.ref v :: st) := by
  obtain ⟨p, l, e, R, s, m, args, below, meth, c, D, cA, ad, A, Q⟩ := X
  obtain ⟨⟨hx, hb, hml, hown, hts⟩, hfr, hlo, hmc, hms, hK, hnew, hlk, hnw, hao⟩ := h
  intro H locs ls hP hD hS hl
  exact lv_astore_n hx hb d rfl hl.1 hj rfl (fun ls' h' => k H locs ls' hP hD hS (loc.st rfl hl.2 h'))
theorem b_astore {X : sT} {cc : ByteArray} {own : String} {nL fr lo mc ms : Nat} {cs : Nat × Nat} {w : va_W} {pc : Nat} {L : List (Option Value)} {st : List Value} {j : Nat} {v : Nat} (h : bX X cc own nL fr lo mc ms) (d : decode cc pc = .ok (.astore j, 2)) (hj : (j : Nat) < nL) (k : bW X nL cs w (pc + 2) (lst L j (.ref v)) st) : bW X nL cs w pc L (.ref v :: st) := by
  obtain ⟨p, l, e, R, s, m, args, below, meth, c, D, cA, ad, A, Q⟩ := X
  obtain ⟨⟨hx, hb, hml, hown, hts⟩, hfr, hlo, hmc, hms, hK, hnew, hlk, hnw, hao⟩ := h
  intro H locs ls hP hD hS hl
  exact lv_astore hx hb d hl.1 hj rfl (fun ls' h' => k H locs ls' hP hD hS (loc.st rfl hl.2 h'))
theorem b_iinc {X : sT} {cc : ByteArray} {own : String} {nL fr lo mc ms : Nat} {cs : Nat × Nat} {w : va_W} {pc : Nat} {L : List (Option Value)} {st : List Value} {j : Nat} {n : Int} {v : Int32} (u : Int32) (h : bX X cc own nL fr lo mc ms) (d : decode cc pc = .ok (.iinc j n, 3)) (hi : lgt L j = some (.int v)) (hu : v + Int32.ofInt n = u) (hj : j < nL) (k : bW X nL cs w (pc + 3) (lst L j (.int u)) st) : bW X nL cs w pc L st := by
  obtain ⟨p, l, e, R, s, m, args, below, meth, c, D, cA, ad, A, Q⟩ := X
  obtain ⟨⟨hx, hb, hml, hown, hts⟩, hfr, hlo, hmc, hms, hK, hnew, hlk, hnw, hao⟩ := h
  intro H locs ls hP hD hS hl
  obtain ⟨q, hq⟩ := List.getElem?_of_mem (lps_mem.mpr ⟨Nat.zero_le j, (by rw [Nat.sub_zero]; exact hi)⟩)
  exact lv_iinc hx hb d hl.1 hq hu hj rfl (fun ls' h' => k H locs ls' hP hD hS (loc.st rfl hl.2 h'))
theorem b_goto {X : sT} {cc : ByteArray} {own : String} {nL fr lo mc ms : Nat} {cs : Nat × Nat} {w : va_W} {pc : Nat} {L : List (Option Value)} {st : List Value} {off : Int} {tgt : Nat} (h : bX X cc own nL fr lo mc ms) (d : decode cc pc = .ok (.goto off, 3)) (ht : (pc : Int) + off = (tgt : Int)) (k : bW X nL cs w tgt L st) : bW X nL cs w pc L st := by
  obtain ⟨p, l, e, R, s, m, args, below, meth, c, D, cA, ad, A, Q⟩ := X
  obtain ⟨⟨hx, hb, hml, hown, hts⟩, hfr, hlo, hmc, hms, hK, hnew, hlk, hnw, hao⟩ := h
  intro H locs ls hP hD hS hl
  exact lv_goto hx hb d ht (k H locs ls hP hD hS hl)
theorem b_ic_geT {X : sT} {cc : ByteArray} {own : String} {nL fr lo mc ms : Nat} {cs : Nat × Nat} {w : va_W} {pc : Nat} {L : List (Option Value)} {st : List Value} {x y : Int32} {off : Int} {tgt : Nat} (h : bX X cc own nL fr lo mc ms) (d : decode cc pc = .ok (.if_icmp .ge off, 3)) (ht : (pc : Int) + off = (tgt : Int)) (hc : y ≤ x) (k : bW X nL cs w (tgt) L st) : bW X nL cs w pc L (.int y :: .int x :: st) := by
  obtain ⟨p, l, e, R, s, m, args, below, meth, c, D, cA, ad, A, Q⟩ := X
  obtain ⟨⟨hx, hb, hml, hown, hts⟩, hfr, hlo, hmc, hms, hK, hnew, hlk, hnw, hao⟩ := h
  intro H locs ls hP hD hS hl
  exact lv_icmp_ge hx hb d ht (fun q => k H locs ls hP hD hS hl) (fun q => absurd hc q)
theorem b_ic_geF {X : sT} {cc : ByteArray} {own : String} {nL fr lo mc ms : Nat} {cs : Nat × Nat} {w : va_W} {pc : Nat} {L : List (Option Value)} {st : List Value} {x y : Int32} {off : Int} {tgt : Nat} (h : bX X cc own nL fr lo mc ms) (d : decode cc pc = .ok (.if_icmp .ge off, 3)) (ht : (pc : Int) + off = (tgt : Int)) (hc : ¬ y ≤ x) (k : bW X nL cs w (pc + 3) L st) : bW X nL cs w pc L (.int y :: .int x :: st) := by
  obtain ⟨p, l, e, R, s, m, args, below, meth, c, D, cA, ad, A, Q⟩ := X
  obtain ⟨⟨hx, hb, hml, hown, hts⟩, hfr, hlo, hmc, hms, hK, hnew, hlk, hnw, hao⟩ := h
  intro H locs ls hP hD hS hl
  exact lv_icmp_ge hx hb d ht (fun q => absurd q hc) (fun q => k H locs ls hP hD hS hl)
theorem b_ic_eqT {X : sT} {cc : ByteArray} {own : String} {nL fr lo mc ms : Nat} {cs : Nat × Nat} {w : va_W} {pc : Nat} {L : List (Option Value)} {st : List Value} {x y : Int32} {off : Int} {tgt : Nat} (h : bX X cc own nL fr lo mc ms) (d : decode cc pc = .ok (.if_icmp .eq off, 3)) (ht : (pc : Int) + off = (tgt : Int)) (hc : x = y) (k : bW X nL cs w (tgt) L st) : bW X nL cs w pc L (.int y :: .int x :: st) := by
  obtain ⟨p, l, e, R, s, m, args, below, meth, c, D, cA, ad, A, Q⟩ := X
  obtain ⟨⟨hx, hb, hml, hown, hts⟩, hfr, hlo, hmc, hms, hK, hnew, hlk, hnw, hao⟩ := h
  intro H locs ls hP hD hS hl
  exact lv_icmp_eq hx hb d ht (fun q => k H locs ls hP hD hS hl) (fun q => absurd hc q)
theorem b_if_eqT {X : sT} {cc : ByteArray} {own : String} {nL fr lo mc ms : Nat} {cs : Nat × Nat} {w : va_W} {pc : Nat} {L : List (Option Value)} {st : List Value} {x : Int32} {off : Int} {tgt : Nat} (h : bX X cc own nL fr lo mc ms) (d : decode cc pc = .ok (.ifCond .eq off, 3)) (ht : (pc : Int) + off = (tgt : Int)) (hc : x = 0) (k : bW X nL cs w (tgt) L st) : bW X nL cs w pc L (.int x :: st) := by
  obtain ⟨p, l, e, R, s, m, args, below, meth, c, D, cA, ad, A, Q⟩ := X
  obtain ⟨⟨hx, hb, hml, hown, hts⟩, hfr, hlo, hmc, hms, hK, hnew, hlk, hnw, hao⟩ := h
  intro H locs ls hP hD hS hl
  exact lv_if_eq hx hb d ht (fun q => k H locs ls hP hD hS hl) (fun q => absurd hc q)
theorem b_ic_eqF {X : sT} {cc : ByteArray} {own : String} {nL fr lo mc ms : Nat} {cs : Nat × Nat} {w : va_W} {pc : Nat} {L : List (Option Value)} {st : List Value} {x y : Int32} {off : Int} {tgt : Nat} (h : bX X cc own nL fr lo mc ms) (d : decode cc pc = .ok (.if_icmp .eq off, 3)) (ht : (pc : Int) + off = (tgt : Int)) (hc : ¬ x = y) (k : bW X nL cs w (pc + 3) L st) : bW X nL cs w pc L (.int y :: .int x :: st) := by
  obtain ⟨p, l, e, R, s, m, args, below, meth, c, D, cA, ad, A, Q⟩ := X
  obtain ⟨⟨hx, hb, hml, hown, hts⟩, hfr, hlo, hmc, hms, hK, hnew, hlk, hnw, hao⟩ := h
  intro H locs ls hP hD hS hl
  exact lv_icmp_eq hx hb d ht (fun q => absurd q hc) (fun q => k H locs ls hP hD hS hl)
theorem b_if_eqF {X : sT} {cc : ByteArray} {own : String} {nL fr lo mc ms : Nat} {cs : Nat × Nat} {w : va_W} {pc : Nat} {L : List (Option Value)} {st : List Value} {x : Int32} {off : Int} {tgt : Nat} (h : bX X cc own nL fr lo mc ms) (d : decode cc pc = .ok (.ifCond .eq off, 3)) (ht : (pc : Int) + off = (tgt : Int)) (hc : ¬ x = 0) (k : bW X nL cs w (pc + 3) L st) : bW X nL cs w pc L (.int x :: st) := by
  obtain ⟨p, l, e, R, s, m, args, below, meth, c, D, cA, ad, A, Q⟩ := X
  obtain ⟨⟨hx, hb, hml, hown, hts⟩, hfr, hlo, hmc, hms, hK, hnew, hlk, hnw, hao⟩ := h
  intro H locs ls hP hD hS hl
  exact lv_if_eq hx hb d ht (fun q => absurd q hc) (fun q => k H locs ls hP hD hS hl)
theorem b_ic_neT {X : sT} {cc : ByteArray} {own : String} {nL fr lo mc ms : Nat} {cs : Nat × Nat} {w : va_W} {pc : Nat} {L : List (Option Value)} {st : List Value} {x y : Int32} {off : Int} {tgt : Nat} (h : bX X cc own nL fr lo mc ms) (d : decode cc pc = .ok (.if_icmp .ne off, 3)) (ht : (pc : Int) + off = (tgt : Int)) (hc : ¬ x = y) (k : bW X nL cs w (tgt) L st) : bW X nL cs w pc L (.int y :: .int x :: st) := by
  obtain ⟨p, l, e, R, s, m, args, below, meth, c, D, cA, ad, A, Q⟩ := X
  obtain ⟨⟨hx, hb, hml, hown, hts⟩, hfr, hlo, hmc, hms, hK, hnew, hlk, hnw, hao⟩ := h
  intro H locs ls hP hD hS hl
  exact lv_icmp_ne hx hb d ht (fun q => k H locs ls hP hD hS hl) (fun q => absurd q hc)
theorem b_if_neT {X : sT} {cc : ByteArray} {own : String} {nL fr lo mc ms : Nat} {cs : Nat × Nat} {w : va_W} {pc : Nat} {L : List (Option Value)} {st : List Value} {x : Int32} {off : Int} {tgt : Nat} (h : bX X cc own nL fr lo mc ms) (d : decode cc pc = .ok (.ifCond .ne off, 3)) (ht : (pc : Int) + off = (tgt : Int)) (hc : ¬ x = 0) (k : bW X nL cs w (tgt) L st) : bW X nL cs w pc L (.int x :: st) := by
  obtain ⟨p, l, e, R, s, m, args, below, meth, c, D, cA, ad, A, Q⟩ := X
  obtain ⟨⟨hx, hb, hml, hown, hts⟩, hfr, hlo, hmc, hms, hK, hnew, hlk, hnw, hao⟩ := h
  intro H locs ls hP hD hS hl
  exact lv_if_ne hx hb d ht (fun q => k H locs ls hP hD hS hl) (fun q => absurd q hc)
theorem b_ic_neF {X : sT} {cc : ByteArray} {own : String} {nL fr lo mc ms : Nat} {cs : Nat × Nat} {w : va_W} {pc : Nat} {L : List (Option Value)} {st : List Value} {x y : Int32} {off : Int} {tgt : Nat} (h : bX X cc own nL fr lo mc ms) (d : decode cc pc = .ok (.if_icmp .ne off, 3)) (ht : (pc : Int) + off = (tgt : Int)) (hc : x = y) (k : bW X nL cs w (pc + 3) L st) : bW X nL cs w pc L (.int y :: .int x :: st) := by
  obtain ⟨p, l, e, R, s, m, args, below, meth, c, D, cA, ad, A, Q⟩ := X
  obtain ⟨⟨hx, hb, hml, hown, hts⟩, hfr, hlo, hmc, hms, hK, hnew, hlk, hnw, hao⟩ := h
  intro H locs ls hP hD hS hl
  exact lv_icmp_ne hx hb d ht (fun q => absurd hc q) (fun q => k H locs ls hP hD hS hl)
theorem b_if_neF {X : sT} {cc : ByteArray} {own : String} {nL fr lo mc ms : Nat} {cs : Nat × Nat} {w : va_W} {pc : Nat} {L : List (Option Value)} {st : List Value} {x : Int32} {off : Int} {tgt : Nat} (h : bX X cc own nL fr lo mc ms) (d : decode cc pc = .ok (.ifCond .ne off, 3)) (ht : (pc : Int) + off = (tgt : Int)) (hc : x = 0) (k : bW X nL cs w (pc + 3) L st) : bW X nL cs w pc L (.int x :: st) := by
  obtain ⟨p, l, e, R, s, m, args, below, meth, c, D, cA, ad, A, Q⟩ := X
  obtain ⟨⟨hx, hb, hml, hown, hts⟩, hfr, hlo, hmc, hms, hK, hnew, hlk, hnw, hao⟩ := h
  intro H locs ls hP hD hS hl
  exact lv_if_ne hx hb d ht (fun q => absurd hc q) (fun q => k H locs ls hP hD hS hl)
theorem b_obj {X : sT} {cc : ByteArray} {own : String} {nL fr lo mc ms : Nat} {cs : Nat × Nat} {w : va_W} {pc : Nat} {L : List (Option Value)} {st : List Value} {index a : Nat} (h : bX X cc own nL fr lo mc ms) (hw : Cond.methodLink own index Lib.objectInit ∈ GW) (hfr1 : 1 ≤ fr) (hlo1 : (st.map fun v => v.category).sum + 12 ≤ lo) (d : decode cc pc = .ok (.invokespecial index, 3)) (k : bW X nL cs w (pc + 3) L st) : bW X nL cs w pc L (.ref a :: st) := by
  obtain ⟨p, l, e, R, s, m, args, below, meth, c, D, cA, ad, A, Q⟩ := X
  obtain ⟨⟨hx, hb, hml, hown, hts⟩, hfr, hlo, hmc, hms, hK, hnew, hlk, hnw, hao⟩ := h
  intro H locs ls hP hD hS hl
  refine W.objInit hx hb hown (hts _ hw) (hts _ w1_36) (hts _ w1_37) rfl (hl.1.1.trans hml.symm) rfl d (Nat.le_trans hfr1 hfr) (Nat.le_trans (by show 2 * 0 + _ + 12 ≤ lo; omega) hlo) ?_
  exact k H locs ls hP hD hS hl
def cok (ci : Nat) (N : Nat) (own : String) (index : Nat) (fs : List Value) : Prop := ∃ (C : String) (T : u_T) (ty : Nat → FieldType), CL[ci]? = some (C, T, N) ∧ (∀ x ∈ u_ws C T N, x ∈ GW) ∧ (∀ k, k < N → parseFieldDescriptor (T k).2.2.1 = some (ty k)) ∧ Cond.classLink own index C ∈ GW ∧ Cond.instantiable C N ∈ GW ∧ Cond.initialized C ∈ GW ∧ ∀ j, j < N → defaultValue (ty j) = vp_V fs j
theorem b_new {X : sT} {cc : ByteArray} {own : String} {nL fr lo mc ms : Nat} {cs : Nat × Nat} {w : va_W} {pc : Nat} {L : List (Option Value)} {st : List Value} {ci N index : Nat} {fs : List Value} (h : bX X cc own nL fr lo mc ms) (hc : cok ci N own index fs) (hcs : cs.1 + 1 ≤ mc ∧ cs.2 + N ≤ ms) (d : decode cc pc = .ok (.new index, 3)) (kk : ∀ q : Nat, bW X nL (cs.1 + 1, cs.2 + N) (w ++ [(q, .inr (ci, fs))]) (pc + 3) L (.ref q :: st)) : bW X nL cs w pc L st := by
  obtain ⟨p, l, e, R, s, m, args, below, meth, c, D, cA, ad, A, Q⟩ := X
  obtain ⟨⟨hx, hb, hml, hown, hts⟩, hfr, hlo, hmc, hms, hK, hnew, hlk, hnw, hao⟩ := h
  intro H locs ls hP hD hS hl
  obtain ⟨C, T, ty, h1, h2, h3, h4, h5, h6, h7⟩ := hc
  exact va_new hx hb hts h2 ty h3 hown (hts _ h4) (hts _ h5) (hts _ h6) hK hP hD hS hnew h1 h7 (Nat.le_trans hcs.1 hmc) (Nat.le_trans hcs.2 hms) d (fun q H1 hP1 hD1 hS1 => kk q H1 locs ls hP1 hD1 hS1 hl)
theorem cA_of {D : va_G} {cA : Nat → ClassId} {s : State} {c' : ClassId} {ty : FieldType} (t : Nat) (hK : va_K D CL (TY cA ++ [(c', ty)]) s) (ht : (TY cA)[t]? = some (cA t, ty)) (h4 : (TY cA).length = 4) (hty : ∀ C, ty = .object C → False) : c' = cA t := by
  have h1 := (hK.2 4 (c', ty) (by rw [List.getElem?_append_right (by rw [h4]; exact Nat.le_refl _), h4]; rfl)).2
  have h2 := (hK.2 t (cA t, ty) (by rw [List.getElem?_append_left (List.getElem?_eq_some_iff.mp ht).1]; exact ht)).2
  cases ty <;> first | exact Option.some.inj (h1.symm.trans h2) | exact (hty _ rfl).elim
theorem b_newI {X : sT} {cc : ByteArray} {own : String} {nL fr lo mc ms : Nat} {cs : Nat × Nat} {w : va_W} {pc : Nat} {L : List (Option Value)} {st : List Value} (N' : Nat) {n : Int32} (h : bX X cc own nL fr lo mc ms) (hn : ¬ n < 0) (hN : n.toNatClampNeg = N') (hN2 : N' ≤ 1000) (hcs : cs.1 + 1 ≤ mc ∧ cs.2 + N' ≤ ms) (d : decode cc pc = .ok (.newarray .int, 2)) (kk : ∀ q : Nat, bW X nL (cs.1 + 1, cs.2 + N') (w ++ [(q, .inl (scA X 0, N', .inl (fun _ => 0)))]) (pc + 2) L (.ref q :: st)) : bW X nL cs w pc L (.int n :: st) := by
  obtain ⟨p, l, e, R, s, m, args, below, meth, c, D, cA, ad, A, Q⟩ := X
  obtain ⟨⟨hx, hb, hml, hown, hts⟩, hfr, hlo, hmc, hms, hK, hnew, hlk, hnw, hao⟩ := h
  intro H locs ls hP hD hS hl
  refine va_newa (atype := .int) (ty := .int) (a0 := (N', .inl (fun _ => 0))) hx hb (hts _ w1_116) rfl hK hP hD hS hnew (fun _ => rfl) hn hN (by show N' * 4 ≤ 536870912; omega) (Nat.le_trans hcs.1 hmc) (Nat.le_trans hcs.2 hms) d (fun q c' H1 hK1 hP1 hD1 hS1 => ?_)
  obtain rfl := cA_of 0 hK1 rfl rfl (fun _ h => nomatch h)
  exact kk q H1 locs ls hP1 hD1 hS1 hl
theorem b_newC {X : sT} {cc : ByteArray} {own : String} {nL fr lo mc ms : Nat} {cs : Nat × Nat} {w : va_W} {pc : Nat} {L : List (Option Value)} {st : List Value} (N' : Nat) {n : Int32} (h : bX X cc own nL fr lo mc ms) (hn : ¬ n < 0) (hN : n.toNatClampNeg = N') (hN2 : N' ≤ 1000) (hcs : cs.1 + 1 ≤ mc ∧ cs.2 + N' ≤ ms) (d : decode cc pc = .ok (.newarray .char, 2)) (kk : ∀ q : Nat, bW X nL (cs.1 + 1, cs.2 + N') (w ++ [(q, .inl (scA X 1, N', .inl (fun _ => 0)))]) (pc + 2) L (.ref q :: st)) : bW X nL cs w pc L (.int n :: st) := by
  obtain ⟨p, l, e, R, s, m, args, below, meth, c, D, cA, ad, A, Q⟩ := X
  obtain ⟨⟨hx, hb, hml, hown, hts⟩, hfr, hlo, hmc, hms, hK, hnew, hlk, hnw, hao⟩ := h
  intro H locs ls hP hD hS hl
  refine va_newa (atype := .char) (ty := .char) (a0 := (N', .inl (fun _ => 0))) hx hb (hts _ w2_133) rfl hK hP hD hS hnew (fun _ => rfl) hn hN (by show N' * 2 ≤ 536870912; omega) (Nat.le_trans hcs.1 hmc) (Nat.le_trans hcs.2 hms) d (fun q c' H1 hK1 hP1 hD1 hS1 => ?_)
  obtain rfl := cA_of 1 hK1 rfl rfl (fun _ h => nomatch h)
  exact kk q H1 locs ls hP1 hD1 hS1 hl
theorem b_newL {X : sT} {cc : ByteArray} {own : String} {nL fr lo mc ms : Nat} {cs : Nat × Nat} {w : va_W} {pc : Nat} {L : List (Option Value)} {st : List Value} (N' : Nat) {n : Int32} (h : bX X cc own nL fr lo mc ms) (hn : ¬ n < 0) (hN : n.toNatClampNeg = N') (hN2 : N' ≤ 1000) (hcs : cs.1 + 1 ≤ mc ∧ cs.2 + N' ≤ ms) (d : decode cc pc = .ok (.newarray .long, 2)) (kk : ∀ q : Nat, bW X nL (cs.1 + 1, cs.2 + N') (w ++ [(q, .inl (scA X 3, N', .inr (.inl (fun _ => 0))))]) (pc + 2) L (.ref q :: st)) : bW X nL cs w pc L (.int n :: st) := by
  obtain ⟨p, l, e, R, s, m, args, below, meth, c, D, cA, ad, A, Q⟩ := X
  obtain ⟨⟨hx, hb, hml, hown, hts⟩, hfr, hlo, hmc, hms, hK, hnew, hlk, hnw, hao⟩ := h
  intro H locs ls hP hD hS hl
  refine va_newa (atype := .long) (ty := .long) (a0 := (N', .inr (.inl (fun _ => 0)))) hx hb (hts _ w8_181) rfl hK hP hD hS hnew (fun _ => rfl) hn hN (by show N' * 8 ≤ 536870912; omega) (Nat.le_trans hcs.1 hmc) (Nat.le_trans hcs.2 hms) d (fun q c' H1 hK1 hP1 hD1 hS1 => ?_)
  obtain rfl := cA_of 3 hK1 rfl rfl (fun _ h => nomatch h)
  exact kk q H1 locs ls hP1 hD1 hS1 hl
theorem b_newB {X : sT} {cc : ByteArray} {own : String} {nL fr lo mc ms : Nat} {cs : Nat × Nat} {w : va_W} {pc : Nat} {L : List (Option Value)} {st : List Value} (N' : Nat) {n : Int32} {index : Nat} (h : bX X cc own nL fr lo mc ms) (hw : Cond.classLink own index RX0 ∈ GW) (hn : ¬ n < 0) (hN : n.toNatClampNeg = N') (hN2 : N' ≤ 1000) (hcs : cs.1 + 1 ≤ mc ∧ cs.2 + N' ≤ ms) (d : decode cc pc = .ok (.anewarray index, 3)) (kk : ∀ q : Nat, bW X nL (cs.1 + 1, cs.2 + N') (w ++ [(q, .inl (scA X 2, N', .inr (.inr (.inr (.inr (fun _ => none))))))]) (pc + 3) L (.ref q :: st)) : bW X nL cs w pc L (.int n :: st) := by
  obtain ⟨p, l, e, R, s, m, args, below, meth, c, D, cA, ad, A, Q⟩ := X
  obtain ⟨⟨hx, hb, hml, hown, hts⟩, hfr, hlo, hmc, hms, hK, hnew, hlk, hnw, hao⟩ := h
  intro H locs ls hP hD hS hl
  refine va_newq hx hb hown (hts _ hw) hao hK hP hD hS hnew hn hN (by omega) (Nat.le_trans hcs.1 hmc) (Nat.le_trans hcs.2 hms) d (fun q c' H1 hK1 hP1 hD1 hS1 => ?_)
  have e1 : c' = cA 2 := by
    obtain ⟨-, -, -, -, -, g1⟩ := (hK1.2 4 (c', .object RX0) rfl).2
    obtain ⟨-, -, -, -, -, g2⟩ := (hK1.2 2 (cA 2, .object RX0) rfl).2
    exact Option.some.inj (g1.symm.trans g2)
  subst e1
  exact kk q H1 locs ls hP1 hD1 hS1 hl
theorem b_put {X : sT} {cc : ByteArray} {own : String} {nL fr lo mc ms : Nat} {cs : Nat × Nat} {w : va_W} {pc : Nat} {L : List (Option Value)} {st : List Value} {ci n j index a k : Nat} {fs : List Value} {ty : FieldType} {v : Value} (h : bX X cc own nL fr lo mc ms) (hf : fok ci n j own index ty false) (hk : w[k]? = some (a, .inr (ci, fs))) (hl1 : fs.length = n) (hn : narrow ty v = v) (hft : fits ty v = true) (d : decode cc pc = .ok (.putfield index, 3)) (kk : bW X nL cs (w.set k (a, .inr (ci, fs.set j v))) (pc + 3) L st) : bW X nL cs w pc L (v :: .ref a :: st) := by
  obtain ⟨p, l, e, R, s, m, args, below, meth, c, D, cA, ad, A, Q⟩ := X
  obtain ⟨⟨hx, hb, hml, hown, hts⟩, hfr, hlo, hmc, hms, hK, hnew, hlk, hnw, hao⟩ := h
  intro H locs ls hP hD hS hl
  obtain ⟨C, T, ref, ty0, hc, hj, hin, hw, hsm, h6, h7, h8, h9⟩ := hf
  exact va_put hx hb hts hin ty0 h6 h7 hown hK hP hD hS k hk hc j hj (hts _ hw) (fok_same hts hsm) h8 h9 hn hft (by rw [hl1]; exact hj) d (fun H1 locs1 hP1 hD1 hS1 => kk H1 locs1 ls hP1 hD1 hS1 hl)
def fin_own (ci j : Nat) (own : String) : Prop := ∀ (C : String) (T : u_T) (n : Nat), CL[ci]? = some (C, T, n) → (T j).1 = own
theorem b_putF {X : sT} {cc : ByteArray} {own : String} {nL fr lo mc ms : Nat} {cs : Nat × Nat} {w : va_W} {pc : Nat} {L : List (Option Value)} {st : List Value} {ci n j index a k : Nat} {fs : List Value} {ty : FieldType} {v : Value} (h : bX X cc own nL fr lo mc ms) (hin0 : bIn X) (hf : fok ci n j own index ty true) (hfo : fin_own ci j own) (hk : w[k]? = some (a, .inr (ci, fs))) (hl1 : fs.length = n) (hn : narrow ty v = v) (hft : fits ty v = true) (d : decode cc pc = .ok (.putfield index, 3)) (kk : bW X nL cs (w.set k (a, .inr (ci, fs.set j v))) (pc + 3) L st) : bW X nL cs w pc L (v :: .ref a :: st) := by
  obtain ⟨p, l, e, R, s, m, args, below, meth, c, D, cA, ad, A, Q⟩ := X
  obtain ⟨⟨hx, hb, hml, hown, hts⟩, hfr, hlo, hmc, hms, hK, hnew, hlk, hnw, hao⟩ := h
  intro H locs ls hP hD hS hl
  obtain ⟨C, T, ref, ty0, hc, hj, hin, hw, hsm, h6, h7, h8, h9⟩ := hf
  exact va_putF hx hb hts hin ty0 h6 h7 hown hK hP hD hS k hk hc j hj (hts _ hw) (fok_same hts hsm) h8 hin0 (hfo _ _ _ hc) h9 hn hft (by rw [hl1]; exact hj) d (fun H1 locs1 hP1 hD1 hS1 => kk H1 locs1 ls hP1 hD1 hS1 hl)
theorem b_get {X : sT} {cc : ByteArray} {own : String} {nL fr lo mc ms : Nat} {cs : Nat × Nat} {w : va_W} {pc : Nat} {L : List (Option Value)} {st : List Value} {ci n j index a k : Nat} {fs : List Value} {ty : FieldType} {fin : Bool} {v : Value} (h : bX X cc own nL fr lo mc ms) (hf : fok ci n j own index ty fin) (hk : w[k]? = some (a, .inr (ci, fs))) (hv : fs[j]? = some v) (d : decode cc pc = .ok (.getfield index, 3)) (kk : bW X nL cs w (pc + 3) L (v :: st)) : bW X nL cs w pc L (.ref a :: st) := by
  obtain ⟨p, l, e, R, s, m, args, below, meth, c, D, cA, ad, A, Q⟩ := X
  obtain ⟨⟨hx, hb, hml, hown, hts⟩, hfr, hlo, hmc, hms, hK, hnew, hlk, hnw, hao⟩ := h
  intro H locs ls hP hD hS hl
  obtain ⟨C, T, ref, ty0, hc, hj, hin, hw, hsm, h6, h7, h8, h9⟩ := hf
  exact va_get hx hb hts hin hown hK hP k hk hc j hj (hts _ hw) (fok_same hts hsm) hv d (kk H locs ls hP hD hS hl)
theorem b_iast {X : sT} {cc : ByteArray} {own : String} {nL fr lo mc ms : Nat} {cs : Nat × Nat} {w : va_W} {pc : Nat} {L : List (Option Value)} {st : List Value} {a k n : Nat} {f : Nat → Int32} {i v : Int32} (h : bX X cc own nL fr lo mc ms) (hk : w[k]? = some (a, .inl (scA X 0, n, .inl f))) (hi : vp_in i n) (d : decode cc pc = .ok (.iastore, 1)) (kk : bW X nL cs (w.set k (a, .inl (scA X 0, n, .inl (upd f i.toNatClampNeg v)))) (pc + 1) L st) : bW X nL cs w pc L (.int v :: .int i :: .ref a :: st) := by
  obtain ⟨p, l, e, R, s, m, args, below, meth, c, D, cA, ad, A, Q⟩ := X
  obtain ⟨⟨hx, hb, hml, hown, hts⟩, hfr, hlo, hmc, hms, hK, hnew, hlk, hnw, hao⟩ := h
  intro H locs ls hP hD hS hl
  exact va_iast hx hb hK hP hD hS k 0 hk rfl hi d (fun H1 locs1 hP1 hD1 hS1 => kk H1 locs1 ls hP1 hD1 hS1 hl)
theorem b_aast {X : sT} {cc : ByteArray} {own : String} {nL fr lo mc ms : Nat} {cs : Nat × Nat} {w : va_W} {pc : Nat} {L : List (Option Value)} {st : List Value} {a k n q qk : Nat} {f : Nat → Option Nat} {vs : List Value} {i : Int32} (h : bX X cc own nL fr lo mc ms) (hk : w[k]? = some (a, .inl (scA X 2, n, .inr (.inr (.inr (.inr f)))))) (hq : w[qk]? = some (q, .inr (0, vs))) (hi : vp_in i n) (d : decode cc pc = .ok (.aastore, 1)) (kk : bW X nL cs (w.set k (a, .inl (scA X 2, n, .inr (.inr (.inr (.inr (va_up f i.toNatClampNeg (some q)))))))) (pc + 1) L st) : bW X nL cs w pc L (.ref q :: .int i :: .ref a :: st) := by
  obtain ⟨p, l, e, R, s, m, args, below, meth, c, D, cA, ad, A, Q⟩ := X
  obtain ⟨⟨hx, hb, hml, hown, hts⟩, hfr, hlo, hmc, hms, hK, hnew, hlk, hnw, hao⟩ := h
  intro H locs ls hP hD hS hl
  exact va_astq hx hb hK hP hD hS k 2 qk 0 (r := (RX0, TX0, 10)) hk rfl hq rfl hi d (fun H1 locs1 hP1 hD1 hS1 => kk H1 locs1 ls hP1 hD1 hS1 hl)
/-! contracts of makers -/
def rmK (fr lo mc ms : Nat) : Room := { frames := fr, cells := mc, slots := ms, locals := lo }
def bPre (D : va_G) (cA : Nat → ClassId) (A : Nat → Prop) (w : va_W) (U : State) : Prop := va_P D CL w U.heap ∧ va_K D CL (TY cA) U ∧ va_D A w ∧ (∀ q, U.heap.size ≤ q → A q) ∧ (∀ x ∈ NW, va_Nw x U) ∧ va_AO RX0 U
def kV (l : Launch) (y : MethodName) (cc : ByteArray) (nL fr lo mc ms : Nat) (av : List Value) (w : (Nat → ClassId) → va_W) (Pw : (Nat → ClassId) → va_W → Prop) : Prop :=
  ∀ (D : va_G) (cA : Nat → ClassId) (A : Nat → Prop), Met l y (.code y cc nL none :: GW) (rmK fr lo mc ms) (va_Pc av (bPre D cA A (w cA))) (va_Qv (Pw cA) (fun u t => va_P D CL u t.heap ∧ va_D A u) A) mc ms A
theorem nw_warm {s U : State} (hW : s.WarmedH U.vm) (h : ∀ x ∈ NW, va_Nw x s) : ∀ x ∈ NW, va_Nw x U := by
  intro x hx
  have h1 := h x hx
  have h2 := (List.mem_filter.mp hx).2
  cases x <;> first | exact va_Nw.warmM hW h1 | exact va_Nw.warmD hW h1 | exact va_Nw.warmC hW h1 | cases h2
theorem nw_same {s U : State} (hv : U.vm = s.vm) (h : ∀ x ∈ NW, va_Nw x s) : ∀ x ∈ NW, va_Nw x U := by
  intro x hx
  have h1 := h x hx
  have h2 := (List.mem_filter.mp hx).2
  cases x <;> first | exact va_Nw.same rfl hv.symm h1 | cases h2
theorem bPre.blind {D : va_G} {cA : Nat → ClassId} {A : Nat → Prop} {w : va_W} (av : List Value) : FrameBlind (va_Pc av (bPre D cA A w)) := by
  intro a U g mk h
  obtain ⟨h0, h1, h2, h3, h4, h5, h6⟩ := h
  exact ⟨h0, h1, va_K.moved (u := U) (U := U.calling g mk a) (Vm.Alike.refl U.vm) h2, h3, h4, nw_same (s := U) (U := U.calling g mk a) rfl h5, va_AO.moved (u := U) (U := U.calling g mk a) (Vm.Alike.refl U.vm) h6⟩
theorem k_enter {l : Launch} {y : MethodName} {cc : ByteArray} {nL fr lo mc ms : Nat} {av : List Value} {w : (Nat → ClassId) → va_W} {Pw : (Nat → ClassId) → va_W → Prop} (L : List (Option Value)) (hy : plainName y.cls = true) (hav : (∀ v ∈ av, v.category = 1) ∧ (lg_sl av).length ≤ nL) (hL : ∃ j, L = av.map some ++ List.replicate j none)
    (body : ∀ X : sT, sl X = l → bX X cc y.cls nL fr lo mc ms → X.2.2.2.2.2.2.2.2.1.name = y.name → (∀ (cs : Nat × Nat) (u : va_W) (pc : Nat) (L : List (Option Value)), cs.1 ≤ mc ∧ cs.2 ≤ ms → Pw (scA X) u → decode cc pc = .ok (.return_, 1) → bW X nL cs u pc L []) → bW X nL (0, 0) (w (scA X)) 0 L []) : kV l y cc nL fr lo mc ms av w Pw := by
  intro D cA A
  refine Met.ofW (cc := cc) (maxL := nL) (ret := none) hy rfl ?_
  intro p e s m args below meth c s₁ B hml hv
  obtain ⟨rfl, hP, hK, hD, hnew, hnw, hao⟩ := hv
  have hts0 := atoms_spec (ws := Cond.code y cc nL none :: GW) B.pre
  have hown : s.vm.findClass y.cls = some m.cls := findClass_of_methodNamed B.named
  obtain ⟨j, hj⟩ := hL
  have hl := loc_entry av (j := j) hav.1 hav.2
  rw [← hj] at hl
  rw [lg_entry_eq]
  refine body (p, l, e, (headSpec (Cond.code y cc nL none :: GW) (rmK fr lo mc ms)).room, s, m, av.toArray, below, meth, c, D, cA, fun _ => 0, A, _) rfl ⟨⟨B.exec, B.bytes, hml, hown, fun w hw => hts0 w (List.mem_cons_of_mem _ hw)⟩, Nat.le_refl _, Nat.le_refl _, Nat.le_refl _, Nat.le_refl _, hK, hnew, B.notSynchronized, hnw, hao⟩ (name_of_methodNamed B.named B.method).1 ?_ s.heap [] _ hP hD va_S.rf hl
  intro cs u pc L hcs hu hd H locs ls hP1 hD1 hS1 hl1
  refine W.widen hcs.1 hcs.2 ?_
  exact W.vret B.exec B.bytes B.returns (fun t ht hW => ⟨⟨u, rfl, hu, by rw [ht]; exact hP1, hD1⟩, hS1.F ht⟩) (fun q hq => hS1.2.2 q hq) hd (hlocks := B.notSynchronized)
/-- a call of a maker (or of a method in the making): its cells are cut out, what comes back lies behind the rest -/
theorem b_call {X : sT} {cc : ByteArray} {own : String} {nL fr lo mc ms : Nat} {cs : Nat × Nat} {w : va_W} {pc : Nat} {L : List (Option Value)} {st : List Value} {y : MethodName} {cc' : ByteArray} {nL' fr' lo' mc' ms' index n a : Nat} {s0 : List Value} {wf : (Nat → ClassId) → va_W} {Pw : (Nat → ClassId) → va_W → Prop} (sp : Bool) (As : List Value) (isC isR : List Nat) (wr : va_W) (h : bX X cc own nL fr lo mc ms) (hC : kV (sl X) y cc' nL' fr' lo' mc' ms' (.ref a :: As) wf Pw) (hisC : isC.map (fun i => w[i]?) = (wf (scA X)).map some) (hisR : isR.map (fun i => w[i]?) = wr.map some) (hnd : va_nd isC = true) (hnd2 : va_nd isR = true) (hdis : ∀ i ∈ isR, i ∉ isC)
    (hw : Cond.code y cc' nL' none ∈ GW ∧ Cond.initialized y.cls ∈ GW ∧ Cond.instanceMethod y ∈ GW ∧ (Cond.methodLink own index y ∈ GW ∨ (sp = true ∧ ∃ host, Cond.methodLinkNest own index y host ∈ NW)) ∧ y.cls ≠ "java/lang/invoke/MethodHandle" ∧ y.cls ≠ "java/lang/invoke/VarHandle" ∧ (parseMethodDescriptor y.desc).map (fun d => d.parameters.length) = some n)
    (hsp : if sp then y.name = "<init>" ∧ decode cc pc = .ok (.invokespecial index, 3) else (Cond.selects y.cls y y ∈ GW ∧ decode cc pc = .ok (.invokevirtual index, 3) ∧ ∃ (ci N q : Nat) (T : u_T) (fs : List Value), CL[ci]? = some (y.cls, T, N) ∧ w[q]? = some (a, .inr (ci, fs))))
    (hn : As.length = n) (hrm : fr' + 1 ≤ fr ∧ 8 + (nL' + 11) + lo' ≤ lo) (hst : (st.map fun v => v.category).sum ≤ 8) (hcs : cs.1 + mc' ≤ mc ∧ cs.2 + ms' ≤ ms) (hs0 : s0 = As.reverse ++ .ref a :: st) (kk : ∀ u : va_W, Pw (scA X) u → bW X nL (cs.1 + mc', cs.2 + ms') (wr ++ u) (pc + 3) L st) : bW X nL cs w pc L s0 := by
  obtain ⟨p, l, e, R, s, m, args, below, meth, c, D, cA, ad, A, Q⟩ := X
  obtain ⟨⟨hx, hb, hml, hown, hts⟩, hfr, hlo, hmc, hms, hK, hnew, hlk, hnw, hao⟩ := h
  intro H locs ls hP hD hS hl
  subst hs0
  obtain ⟨w1, w2, w3, w4, w5, w6, w7⟩ := hw
  have hR : (rmK fr' lo' mc' ms').frames + 1 ≤ R.frames ∧ 8 + (nL' + 11) + (rmK fr' lo' mc' ms').locals ≤ R.locals := ⟨Nat.le_trans hrm.1 hfr, Nat.le_trans hrm.2 hlo⟩
  have hM := hC D cA (va_A (wf cA) H.size)
  have hPc : va_P D CL (wf cA) H := fun k q hq => by
    have h1 : (isC.map (fun i => w[i]?))[k]? = some (some q) := by rw [hisC, List.getElem?_map]; rw [show (wf (scA (p, l, e, R, s, m, args, below, meth, c, D, cA, ad, A, Q)))[k]? = some q from hq]; rfl
    rw [List.getElem?_map] at h1
    cases hi : isC[k]? with
    | none => rw [hi] at h1; cases h1
    | some i => rw [hi] at h1; exact hP i q (Option.some.inj h1)
  have hDc := (hD.sub isC hnd hisC).self (sz := H.size)
  have hFc := va_free (wc := wf cA) hD hS hnew isC hisC
  have hfin : ∀ U : State, U.heap = H → s.WarmedH U.vm → bPre D cA (va_A (wf cA) H.size) (wf cA) U := fun U hU hW => ⟨by rw [hU]; exact hPc, va_K.moved hW.alike hK, hDc, fun q hq => Or.inr (by rw [← hU]; exact hq), nw_warm hW hnw, va_AO.moved hW.alike hao⟩
  have hcs' : cs.1 + mc' ≤ R.cells ∧ cs.2 + ms' ≤ R.slots := ⟨Nat.le_trans hcs.1 hmc, Nat.le_trans hcs.2 hms⟩
  have hrun : va_Run p l e R s m args below meth c H locs cs.1 cs.2 mc' ms' (F0 m pc ls (As.reverse ++ .ref a :: st)) st (va_Qv (Pw cA) (fun u t => va_P D CL u t.heap ∧ va_D (va_A (wf cA) H.size) u) (va_A (wf cA) H.size) (Value.ref a :: As).toArray) (va_A (wf cA) H.size) := by
    cases sp with
    | true =>
      obtain ⟨hy, d⟩ := hsp
      have hpre : PreS s H (va_Pc (.ref a :: As) (bPre D cA (va_A (wf cA) H.size) (wf cA))) (.ref a :: As) := ⟨bPre.blind _, fun U hU hW => ⟨rfl, hfin U hU hW⟩⟩
      rcases w4 with w4 | ⟨-, host, w4⟩
      · exact va_runI (As := As) (rest := st) ⟨hx, hb, hml, hown, hts⟩ hM ⟨callB_of n hts (gw_cons w1) rfl rfl rfl (hts _ w2) (hts _ w4) ⟨w5, w6, w7⟩ hR, hy, hts _ w3⟩ hpre rfl hn hl.1.1 rfl (lv_room hst) d hcs'
      · exact va_runIN (As := As) (rest := st) ⟨hx, hb, hml, hown, hts⟩ hM ⟨va_cnB (host := host) n hts (gw_cons w1) rfl rfl rfl (hnw _ w4) (hts _ w2) ⟨w5, w6, w7⟩ hR, hy, hts _ w3⟩ hpre rfl hn hl.1.1 rfl (lv_room hst) d hcs'
    | false =>
      obtain ⟨w8, d, ci, N, q, T, fs, hc, hq⟩ := hsp
      have hpre : PreV s H y.cls a (va_Pc (.ref a :: As) (bPre D cA (va_A (wf cA) H.size) (wf cA))) As := ⟨bPre.blind _, va_recv hK hP (ci := ci) (q0 := q) hc hq, fun U hU hW => ⟨rfl, hfin U hU hW⟩⟩
      rcases w4 with w4 | ⟨h9, -⟩
      · exact va_runV (As := As) (rest := st) ⟨hx, hb, hml, hown, hts⟩ hM ⟨callB_of n hts (gw_cons w1) rfl rfl rfl (hts _ w2) (hts _ w4) ⟨w5, w6, w7⟩ hR, hts _ w3, hts _ w8⟩ hpre rfl hn hl.1.1 rfl (lv_room hst) d hcs'
      · cases h9
  refine va_callv hrun hS (fun q _ h => hFc q h) hFc (fun u t H1 locs1 ht hvm hw hB hz1 hk1 hS1 => ?_)
  obtain ⟨hP1, hD1⟩ := hB
  rw [ht] at hP1
  obtain ⟨hP2, hD2⟩ := va_join (wc := wf cA) (wr := wr) (w1 := u) hP hD isC isR hisC hisR hnd2 hdis hk1 hFc hP1 hD1
  exact kk u hw H1 locs1 ls hP2 hD2 hS1 hl
