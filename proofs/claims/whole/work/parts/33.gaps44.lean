/-! ===== fewer than 44 GAPS ===== -/
theorem jm_fg_last (f : Nat → Int32) : ∀ m, ((jm_fg f m).1 = -1 ∧ (jm_fg f m).2.1 = 0 ∧ ∀ k, k < m → f k = -1) ∨ ∃ l, l < m ∧ (jm_fg f m).1 = nI l ∧ ∀ k, l < k → k < m → f k = -1
  | 0 => Or.inl ⟨rfl, rfl, fun k hk => absurd hk (Nat.not_lt_zero k)⟩
  | m + 1 => by
    have ih := jm_fg_last f m
    by_cases h1 : f m = -1
    · have e : jm_fg f (m + 1) = jm_fg f m := by rw [jm_fg, if_pos h1]
      rw [e]
      have st : ∀ k, k < m + 1 → ¬ k < m → f k = -1 := fun k hk hk2 => by
        have e2 : k = m := by omega
        rw [e2]
        exact h1
      rcases ih with ⟨i1, i2, i3⟩ | ⟨l, hl, i1, i3⟩
      · refine Or.inl ⟨i1, i2, fun k hk => ?_⟩
        by_cases hk2 : k < m
        · exact i3 k hk2
        · exact st k hk hk2
      · refine Or.inr ⟨l, by omega, i1, fun k hlk hk => ?_⟩
        by_cases hk2 : k < m
        · exact i3 k hlk hk2
        · exact st k hk hk2
    · have e : (jm_fg f (m + 1)).1 = nI m := by
        rw [jm_fg, if_neg h1]
        split
        · rfl
        · split <;> rfl
      exact Or.inr ⟨m, by omega, e, fun k h1 h2 => absurd h2 (by omega)⟩
/-- where a SPAN begins -/
def jm_fr (sp : Nat → Int32) (k : Nat) : Nat := (jm_of sp k 2).toNatClampNeg
/-- a MONTH that COUNTS behind one that doesn't is some SPAN's first -/
theorem jm_first {sp od : Nat → Int32} {m n : Nat} (h : jm_ok sp n) (hn : n ≤ 64) (hm : m < 360) (h1 : jm_B sp od n m ≠ -1) (h2 : 1 ≤ m → jm_B sp od n (m - 1) = -1) : ∃ k, k < n ∧ jm_fr sp k = m := by
  have h3 : ∃ k, k < n ∧ jm_co sp k m := by
    apply Classical.byContradiction
    intro hx
    exact h1 ((jm_B_no h hn).mpr (fun k hk hc => hx ⟨k, hk, hc⟩))
  obtain ⟨k, hk, hc⟩ := h3
  obtain ⟨c, d, f, t, p, e0, e1, e2, e3, e4, b⟩ := h k hk
  have hc2 : jm_of sp k 2 ≤ nI m ∧ nI m ≤ jm_of sp k 3 := hc
  rw [e2, e3] at hc2
  have g1 := (nI_leI (by omega) (by omega)).mp hc2.1
  have g2 := (nI_leI (by omega) (by omega)).mp hc2.2
  have e5 : jm_fr sp k = f := by
    unfold jm_fr
    rw [e2]
    exact nI_clamp (by omega)
  refine ⟨k, hk, ?_⟩
  rw [e5]
  by_cases hlt : f < m
  · have h4 := (jm_B_no h hn).mp (h2 (by omega)) k hk
    exact absurd (show jm_of sp k 2 ≤ nI (m - 1) ∧ nI (m - 1) ≤ jm_of sp k 3 by
      rw [e2, e3]
      exact ⟨nI_le (by omega) (by omega), nI_le (by omega) (by omega)⟩) h4
  · omega
theorem jm_gaps_ct {sp od : Nat → Int32} {n : Nat} (h : jm_ok sp n) (hn : n ≤ 64) : ∀ m, m ≤ 360 → (jm_fg (jm_B sp od n) m).2.1 + (if (jm_fg (jm_B sp od n) m).1 = -1 then 0 else 1) ≤ jm_ct (fun k => decide (jm_fr sp k < m)) n
  | 0, _ => Nat.zero_le _
  | m + 1, hm => by
    have ih := jm_gaps_ct (od := od) h hn m (by omega)
    have hl := jm_fg_last (jm_B sp od n) m
    have mono : ∀ k, k < n → decide (jm_fr sp k < m) = true → decide (jm_fr sp k < m + 1) = true := fun k _ hk => decide_eq_true (by have := of_decide_eq_true hk; omega)
    have m1 : jm_ct (fun k => decide (jm_fr sp k < m)) n ≤ jm_ct (fun k => decide (jm_fr sp k < m + 1)) n := jm_ct_mono mono
    by_cases h1 : jm_B sp od n m = -1
    · have e : jm_fg (jm_B sp od n) (m + 1) = jm_fg (jm_B sp od n) m := by rw [jm_fg, if_pos h1]
      rw [e]
      omega
    · have hne : nI m ≠ -1 := jm_ne1 (by omega)
      have up : (1 ≤ m → jm_B sp od n (m - 1) = -1) → jm_ct (fun k => decide (jm_fr sp k < m)) n + 1 ≤ jm_ct (fun k => decide (jm_fr sp k < m + 1)) n := by
        intro h2
        obtain ⟨k, hk, ek⟩ := jm_first h hn (by omega) h1 h2
        exact jm_ct_lt (a := k) (decide_eq_false (by omega)) (decide_eq_true (by omega)) hk mono
      by_cases h2 : (jm_fg (jm_B sp od n) m).1 = -1
      · have e : jm_fg (jm_B sp od n) (m + 1) = (nI m, (jm_fg (jm_B sp od n) m).2) := by rw [jm_fg, if_neg h1, if_pos h2]
        rw [e]
        dsimp only
        rw [if_neg hne]
        rw [if_pos h2] at ih
        have := up (fun h9 => by
          rcases hl with ⟨_, _, i3⟩ | ⟨l, hl1, i1, _⟩
          · exact i3 (m - 1) (by omega)
          · exact absurd (i1.symm.trans h2) (jm_ne1 (by omega)))
        omega
      · rw [if_neg h2] at ih
        by_cases h3 : nI m - (jm_fg (jm_B sp od n) m).1 ≤ 1
        · have e : jm_fg (jm_B sp od n) (m + 1) = (nI m, (jm_fg (jm_B sp od n) m).2) := by rw [jm_fg, if_neg h1, if_neg h2, if_pos h3]
          rw [e]
          dsimp only
          rw [if_neg hne]
          omega
        · have e1 : (jm_fg (jm_B sp od n) (m + 1)).1 = nI m := by rw [jm_fg, if_neg h1, if_neg h2, if_neg h3]
          have e2 : (jm_fg (jm_B sp od n) (m + 1)).2.1 = (jm_fg (jm_B sp od n) m).2.1 + 1 := by rw [jm_fg, if_neg h1, if_neg h2, if_neg h3]
          rw [e1, e2, if_neg hne]
          have := up (fun h9 => by
            rcases hl with ⟨i1, _, _⟩ | ⟨l, hl1, i1, i3⟩
            · exact absurd i1 h2
            · refine i3 (m - 1) ?_ (by omega)
              rw [i1, pk_sub (by omega)] at h3
              have h5 : ¬ m - l ≤ 1 := fun h6 => h3 (nI_le (b := 1) h6 (by decide))
              omega)
          omega
/-- the last hypothesis of Months.reckon -/
theorem jm_gaps44 {sp od : Nat → Int32} {n : Nat} (h : jm_ok sp n) (hn : n ≤ 44) : ∀ m, m ≤ 360 → (jm_fg (jm_B sp od n) m).2.1 < 44 := by
  intro m hm
  have h1 := jm_gaps_ct (od := od) h (by omega) m hm
  have h2 := jm_ct_le (fun k => decide (jm_fr sp k < m)) n
  rcases jm_fg_last (jm_B sp od n) m with ⟨i1, i2, _⟩ | ⟨l, hl, i1, _⟩
  · omega
  · rw [if_neg (by rw [i1]; exact jm_ne1 (by omega))] at h1
    omega
