theorem am_at_chk {y pc : Nat} {e : am_E} (h : am_at y pc = some e) : am_chk y (pc, e) = true := sorry
theorem am_at_spec {y pc nx a b : Nat} {i : Instr} {x : Int32} {ts : List (Int32 × Nat)} (h : am_at y pc = some (i, nx, x, a, b, ts)) : decode (am_by y) pc = .ok (i, nx - pc) ∧ am_lenB i pc nx = true ∧ am_argB y pc (i, nx, x, a, b, ts) = true := by
  have hc := am_at_chk h
  unfold am_chk at hc
  simp only [Bool.and_eq_true] at hc
  exact ⟨of_decide_eq_true hc.1, hc.2.1, hc.2.2.2⟩
theorem am_fx {y pc nx a b L : Nat} {i : Instr} {x : Int32} {ts : List (Int32 × Nat)} (h : am_at y pc = some (i, nx, x, a, b, ts)) (hL : am_lenB i pc nx = Nat.beq nx (pc + L)) : decode (am_by y) pc = .ok (i, L) ∧ nx = pc + L ∧ am_argB y pc (i, nx, x, a, b, ts) = true := by
  obtain ⟨h1, h2, h3⟩ := am_at_spec h
  rw [hL] at h2
  have e := Nat.eq_of_beq_eq_true h2
  refine ⟨?_, e, h3⟩
  rw [h1, e, Nat.add_sub_cancel_left]
