/-! ===== what the MONTHS' numbers are ===== -/
/-- where GAPS lie -/
theorem jm_fg_ok (f : Nat → Int32) : ∀ m, m ≤ 360 → ((jm_fg f m).1 = -1 ∨ ∃ k, k < m ∧ (jm_fg f m).1 = nI k) ∧ ∀ g, g < (jm_fg f m).2.1 → ∃ a b : Nat, (jm_fg f m).2.2.1 g = nI (a + 1) ∧ (jm_fg f m).2.2.2 g = nI b ∧ a + 1 + b ≤ 360 := by
  intro m
  induction m with
  | zero => exact fun _ => ⟨Or.inl rfl, fun g h => absurd h (Nat.not_lt_zero g)⟩
  | succ m ih =>
    intro hm
    obtain ⟨i1, i2⟩ := ih (by omega)
    by_cases h1 : f m = -1
    · rw [jm_fg, if_pos h1]
      refine ⟨?_, i2⟩
      rcases i1 with i1 | ⟨k, hk, ek⟩
      · exact Or.inl i1
      · exact Or.inr ⟨k, by omega, ek⟩
    · by_cases h2 : (jm_fg f m).1 = -1
      · rw [jm_fg, if_neg h1, if_pos h2]
        exact ⟨Or.inr ⟨m, by omega, rfl⟩, i2⟩
      · by_cases h3 : nI m - (jm_fg f m).1 ≤ 1
        · rw [jm_fg, if_neg h1, if_neg h2, if_pos h3]
          exact ⟨Or.inr ⟨m, by omega, rfl⟩, i2⟩
        · rw [jm_fg, if_neg h1, if_neg h2, if_neg h3]
          refine ⟨Or.inr ⟨m, by omega, rfl⟩, fun g hg => ?_⟩
          have hg2 : g < (jm_fg f m).2.1 + 1 := hg
          rcases i1 with i1 | ⟨k, hk, ek⟩
          · exact absurd i1 h2
          · show ∃ a b : Nat, upd (jm_fg f m).2.2.1 (jm_fg f m).2.1 ((jm_fg f m).1 + 1) g = nI (a + 1) ∧ upd (jm_fg f m).2.2.2 (jm_fg f m).2.1 (nI m - (jm_fg f m).1 - 1) g = nI b ∧ a + 1 + b ≤ 360
            by_cases hgc : g = (jm_fg f m).2.1
            · refine ⟨k, m - k - 1, ?_, ?_, by omega⟩
              · rw [hgc, pk_us, ek, nI_1]
              · rw [hgc, pk_us, ek, pk_sub (by omega)]
                have e : m - k = (m - k - 1) + 1 := by omega
                rw [e, nI_pred]
                exact congrArg nI (by omega)
            · rw [pk_un hgc, pk_un hgc]
              exact i2 g (by omega)
/-- SPANS that can be -/
def jm_ok (sp : Nat → Int32) (n : Nat) : Prop := ∀ k, k < n → ∃ c d f t p : Nat, jm_of sp k 0 = nI c ∧ jm_of sp k 1 = nI d ∧ jm_of sp k 2 = nI f ∧ jm_of sp k 3 = nI t ∧ jm_of sp k 4 = nI p ∧ c < 5 ∧ d < 4 ∧ f ≤ t ∧ t < 360 ∧ 1 ≤ p ∧ p ≤ 999
theorem jm_ok_ft {sp : Nat → Int32} {n : Nat} (h : jm_ok sp n) : jm_ft sp n := by
  intro k hk
  obtain ⟨c, d, f, t, p, e0, e1, e2, e3, e4, b⟩ := h k hk
  exact ⟨f, t, e2, e3, b.2.2.1, b.2.2.2.1⟩
theorem jm_pl_le (od : Nat → Int32) (x : Int32) : ∀ n k, jm_pl od x n k ≤ k + n
  | 0, k => Nat.le_refl k
  | n + 1, k => by
    unfold jm_pl
    split
    · omega
    · have h := jm_pl_le od x n (k + 1)
      omega
/-- a SPAN's standing as a number -/
def jm_sn (od : Nat → Int32) (c p k : Nat) (x : Int32) : Nat := ((jm_pl od x 4 0 * 1000 + 999 - p) * 5 + c) * 64 + k
theorem jm_sd_eq {sp od : Nat → Int32} {k c p : Nat} (hc : jm_of sp k 0 = nI c) (hp : jm_of sp k 4 = nI p) (hp2 : p ≤ 999) : jm_sd sp od k = nI (jm_sn od c p k (jm_of sp k 1)) := by
  unfold jm_sd jm_sn
  rw [hc, hp, show (1000 : Int32) = nI 1000 from rfl, show (999 : Int32) = nI 999 from rfl, show (5 : Int32) = nI 5 from rfl, show (64 : Int32) = nI 64 from rfl, pk_mul, nI_add, pk_sub (by omega), pk_mul, nI_add, pk_mul, nI_add]
theorem jm_sn_lt {od : Nat → Int32} {c p k : Nat} {x : Int32} (hc : c < 5) (hk : k < 64) : jm_sn od c p k x < 1073741824 := by
  have h := jm_pl_le od x 4 0
  unfold jm_sn
  omega
theorem jm_st_k (sp od : Nat → Int32) (m : Nat) : ∀ n, jm_st sp od m n = 1073741824 ∨ ∃ k, k < n ∧ jm_st sp od m n = jm_sd sp od k
  | 0 => Or.inl rfl
  | n + 1 => by
    have ih := jm_st_k sp od m n
    have ih2 : jm_st sp od m n = 1073741824 ∨ ∃ k, k < n + 1 ∧ jm_st sp od m n = jm_sd sp od k := by
      rcases ih with h | ⟨k, hk, e⟩
      · exact Or.inl h
      · exact Or.inr ⟨k, by omega, e⟩
    unfold jm_st
    split
    · split
      · exact Or.inr ⟨n, by omega, rfl⟩
      · exact ih2
    · exact ih2
theorem jm_st_rem {sp od : Nat → Int32} {m n : Nat} (h : jm_ok sp n) (hn : n ≤ 64) : jm_st sp od m n = 1073741824 ∨ ∃ k, k < n ∧ am_rem (jm_st sp od m n) 64 = nI k := by
  rcases jm_st_k sp od m n with e | ⟨k, hk, e⟩
  · exact Or.inl e
  · refine Or.inr ⟨k, hk, ?_⟩
    obtain ⟨c, d, f, t, p, e0, e1, e2, e3, e4, b⟩ := h k hk
    have hlt := jm_sn_lt (od := od) (p := p) (x := jm_of sp k 1) b.1 (show k < 64 by omega)
    rw [e, jm_sd_eq e0 e4 b.2.2.2.2.2]
    unfold am_rem
    rw [show (64 : Int32) = nI 64 from rfl, pk_rem (by omega) (by decide) (by decide)]
    refine congrArg nI ?_
    unfold jm_sn
    omega
