/-! ===== fewer GAPS than SPANS ===== -/
def jm_ct (p : Nat → Bool) : Nat → Nat
  | 0 => 0
  | n + 1 => jm_ct p n + (if p n = true then 1 else 0)
theorem jm_ct_le (p : Nat → Bool) : ∀ n, jm_ct p n ≤ n
  | 0 => Nat.le_refl 0
  | n + 1 => by
    have h := jm_ct_le p n
    unfold jm_ct
    split <;> omega
theorem jm_ct_mono {p q : Nat → Bool} : ∀ {n : Nat}, (∀ k, k < n → p k = true → q k = true) → jm_ct p n ≤ jm_ct q n
  | 0, _ => Nat.le_refl 0
  | n + 1, h => by
    have i := jm_ct_mono (n := n) (fun k hk => h k (by omega))
    have j := h n (by omega)
    unfold jm_ct
    by_cases hp : p n = true
    · rw [if_pos hp, if_pos (j hp)]
      omega
    · rw [if_neg hp]
      omega
theorem jm_ct_lt {p q : Nat → Bool} {a : Nat} (ha : p a = false) (hb : q a = true) : ∀ {n : Nat}, a < n → (∀ k, k < n → p k = true → q k = true) → jm_ct p n + 1 ≤ jm_ct q n
  | 0, h, _ => absurd h (Nat.not_lt_zero a)
  | n + 1, h, hm => by
    unfold jm_ct
    by_cases hn : a = n
    · subst hn
      have i := jm_ct_mono (n := a) (fun k hk => hm k (by omega))
      rw [if_neg (by rw [ha]; decide), if_pos hb]
      omega
    · have i := jm_ct_lt ha hb (n := n) (by omega) (fun k hk => hm k (by omega))
      have j := hm n (by omega)
      by_cases hp : p n = true
      · rw [if_pos hp, if_pos (j hp)]
        omega
      · rw [if_neg hp]
        omega
theorem jm_ne1 {k : Nat} (h : k < 2 ^ 31) : nI k ≠ -1 := by
  intro e
  have h0 := nI_pos h
  rw [e] at h0
  exact h0 (by decide)
/-- covered or not -/
def jm_co (sp : Nat → Int32) (k m : Nat) : Prop := jm_of sp k 2 ≤ nI m ∧ nI m ≤ jm_of sp k 3
theorem jm_sd_ne {sp od : Nat → Int32} {n k : Nat} (h : jm_ok sp n) (hn : n ≤ 64) (hk : k < n) : jm_sd sp od k < 1073741824 ∧ jm_sd sp od k ≠ 1073741824 := by
  obtain ⟨c, d, f, t, p, e0, e1, e2, e3, e4, b⟩ := h k hk
  have hlt := jm_sn_lt (od := od) (p := p) (x := jm_of sp k 1) b.1 (show k < 64 by omega)
  rw [jm_sd_eq e0 e4 b.2.2.2.2.2]
  refine ⟨nI_lt (b := 1073741824) hlt (by decide), fun e => ?_⟩
  have := (nI_eq (b := 1073741824) (by omega) (by decide)).mp e
  omega
theorem jm_st_no {sp od : Nat → Int32} {m n : Nat} (h : jm_ok sp n) (hn : n ≤ 64) : ∀ j, j ≤ n → (jm_st sp od m j = 1073741824 ↔ ∀ k, k < j → ¬ jm_co sp k m)
  | 0, _ => ⟨fun _ k hk => absurd hk (Nat.not_lt_zero k), fun _ => rfl⟩
  | j + 1, hj => by
    have ih := jm_st_no (od := od) (m := m) h hn j (by omega)
    obtain ⟨s1, s2⟩ := jm_sd_ne (od := od) h hn (show j < n by omega)
    by_cases hc : jm_co sp j m
    · have e : jm_st sp od m (j + 1) = (if jm_sd sp od j < jm_st sp od m j then jm_sd sp od j else jm_st sp od m j) := by rw [jm_st]; exact if_pos hc
      refine ⟨fun e2 => ?_, fun hk => absurd hc (hk j (by omega))⟩
      rw [e] at e2
      by_cases hl : jm_sd sp od j < jm_st sp od m j
      · rw [if_pos hl] at e2
        exact absurd e2 s2
      · rw [if_neg hl] at e2
        rw [e2] at hl
        exact absurd s1 hl
    · have e : jm_st sp od m (j + 1) = jm_st sp od m j := by rw [jm_st]; exact if_neg hc
      rw [e, ih]
      refine ⟨fun hk k hk2 => ?_, fun hk k hk2 => hk k (by omega)⟩
      by_cases hkj : k = j
      · rw [hkj]
        exact hc
      · exact hk k (by omega)
theorem jm_B_no {sp od : Nat → Int32} {m n : Nat} (h : jm_ok sp n) (hn : n ≤ 64) : jm_B sp od n m = -1 ↔ ∀ k, k < n → ¬ jm_co sp k m := by
  rw [← jm_st_no (od := od) h hn n (Nat.le_refl n)]
  unfold jm_B jm_by
  rcases jm_st_rem (od := od) (m := m) h hn with e | ⟨k, hk, e⟩
  · rw [if_pos e]
    exact ⟨fun _ => e, fun _ => rfl⟩
  · by_cases hs : jm_st sp od m n = 1073741824
    · rw [if_pos hs]
      exact ⟨fun _ => hs, fun _ => rfl⟩
    · rw [if_neg hs, e]
      exact ⟨fun e2 => absurd e2 (jm_ne1 (by omega)), fun e2 => absurd e2 hs⟩
