/-! ===== loops and sums ===== -/
/-- a loop that counts up to b, from its end backwards -/
theorem lp_dn {P : Nat → Prop} (b : Nat) (hb : P b) (hs : ∀ k, k < b → P (k + 1) → P k) : ∀ k, k ≤ b → P k := by
  have h : ∀ j k, k + j = b → P k := by
    intro j
    induction j with
    | zero => intro k e; have e2 : k = b := e; rw [e2]; exact hb
    | succ j ih => intro k e; exact hs k (by omega) (ih (k + 1) (by omega))
  intro k hk
  exact h (b - k) k (by omega)
def jm_sm (f : Nat → Int32) : Nat → Int32
  | 0 => 0
  | k + 1 => jm_sm f k + f k
theorem jm_sm_cong {f g : Nat → Int32} : ∀ {n : Nat}, (∀ k, k < n → f k = g k) → jm_sm f n = jm_sm g n
  | 0, _ => rfl
  | n + 1, h => by
    show jm_sm f n + f n = jm_sm g n + g n
    rw [jm_sm_cong (fun k hk => h k (by omega)), h n (by omega)]
theorem jm_sm_add (f g : Nat → Int32) : ∀ n : Nat, jm_sm (fun k => f k + g k) n = jm_sm f n + jm_sm g n
  | 0 => rfl
  | n + 1 => by
    show jm_sm (fun k => f k + g k) n + (f n + g n) = (jm_sm f n + f n) + (jm_sm g n + g n)
    rw [jm_sm_add f g n, Int32.add_assoc, Int32.add_assoc, ← Int32.add_assoc (jm_sm g n) (f n) (g n), ← Int32.add_assoc (f n) (jm_sm g n) (g n), Int32.add_comm (jm_sm g n) (f n)]
/-- a sum from a on -/
def jm_sf (f : Nat → Int32) (a n : Nat) : Int32 := jm_sm (fun k => f (a + k)) n
theorem jm_3 {k : Nat} (h : k < 360) : ¬ (360 : Int32) ≤ nI k := nI_ge h (by decide)
theorem jm_3e : (360 : Int32) ≤ nI 360 := nI_le (Nat.le_refl 360) (by decide)
theorem jm_cl {k : Nat} (h : k < 360) : (nI k).toNatClampNeg = k := nI_clamp (by omega)
theorem jm_in {k : Nat} (h : k < 360) : vp_in (nI k) 360 := vp_in_nI h (by decide)
section Leaves
variable {X : Nat × (Nat → Int32)} {M : Nat → Nat → Int32} {L : Nat → Nat → Int64} {G : Nat → Nat → Option Nat} {Q : am_Q}
theorem ct_countedBy_16 {c : Int32} (hQ : Q (some (some (.int (jm_sm (fun m => if M 19 m = c then 1 else 0) 360)))) (jm_s M L G)) : am_T X 18 0 [some (.ref 16), some (.int c), none, none] [] (jm_s M L G) (0, 0) Q := by
  refine rg_X1_countedBy_16_0 ?_
  refine lp_dn (P := fun k => am_T X 18 4 [some (.ref 16), some (.int c), some (.int (jm_sm (fun m => if M 19 m = c then 1 else 0) k)), some (.int (nI k))] [] (jm_s M L G) (0, 0) Q) 360 ?_ ?_ 0 (Nat.zero_le _)
  · exact rg_X1_countedBy_16_4 ⟨fun _ => hQ, fun h => absurd jm_3e h⟩
  · intro k hk ih
    have ih2 : am_T X 18 4 [some (.ref 16), some (.int c), some (.int (jm_sm (fun m => if M 19 m = c then 1 else 0) k + (if M 19 k = c then 1 else 0))), some (.int (nI (k + 1)))] [] (jm_s M L G) (0, 0) Q := ih
    refine rg_X1_countedBy_16_4 ⟨fun h => absurd h (jm_3 hk), fun _ => ⟨jm_in hk, fun h => ?_, fun h => ?_⟩⟩
    · rw [jm_cl hk] at h
      rw [if_neg h] at ih2
      rw [nI_1]
      exact ih2
    · rw [jm_cl hk] at h
      rw [if_pos h] at ih2
      rw [nI_1]
      exact ih2
theorem ct_wayOf_16 {m : Nat} (hm : m < 360) (hQ : Q (some (some (.int (if M 19 m = -1 then (if M 20 m = -1 then 0 else 2) else 1)))) (jm_s M L G)) : am_T X 16 0 [some (.ref 16), some (.int (nI m))] [] (jm_s M L G) (0, 0) Q := by
  refine rg_X1_wayOf_16_0 ⟨jm_in hm, ?_⟩
  rw [jm_cl hm]
  refine ⟨fun h => ⟨jm_in hm, fun h2 => ?_, fun h2 => ?_⟩, fun h => ?_⟩
  · rw [if_pos h, if_pos h2] at hQ; exact hQ
  · rw [if_pos h, if_neg h2] at hQ; exact hQ
  · rw [if_neg h] at hQ; exact hQ
/-- where the first of the MONTHS from k on that has by is, else 360 -/
def jm_fc (f : Nat → Int32) : Nat → Nat → Nat
  | 0, k => k
  | n + 1, k => if f k = -1 then jm_fc f n (k + 1) else k
theorem ct_firstCovered_16 (hQ : Q (some (some (.int (nI (jm_fc (M 19) 360 0))))) (jm_s M L G)) : am_T X 21 0 [some (.ref 16), none] [] (jm_s M L G) (0, 0) Q := by
  refine rg_X1_firstCovered_16_0 ?_
  have h : ∀ n k, k + n = 360 → Q (some (some (.int (nI (jm_fc (M 19) n k))))) (jm_s M L G) → am_T X 21 2 [some (.ref 16), some (.int (nI k))] [] (jm_s M L G) (0, 0) Q := by
    intro n
    induction n with
    | zero =>
      intro k e hq
      have e2 : k = 360 := e
      subst e2
      exact rg_X1_firstCovered_16_2 ⟨fun _ => hq, fun h => absurd jm_3e h⟩
    | succ n ih =>
      intro k e hq
      have hk : k < 360 := by omega
      unfold jm_fc at hq
      refine rg_X1_firstCovered_16_2 ⟨fun h => absurd h (jm_3 hk), fun _ => ⟨jm_in hk, fun h => ?_, fun h => ?_⟩⟩
      · rw [jm_cl hk] at h
        rw [if_pos h] at hq
        rw [nI_1]
        exact ih (k + 1) (by omega) hq
      · rw [jm_cl hk] at h
        rw [if_neg h] at hq
        exact hq
  exact h 360 0 rfl hQ
theorem ct_payIn_16 {y : Nat} (hy : y < 30) (hQ : Q (some (some (.int (jm_sf (M 21) (12 * y) 12)))) (jm_s M L G)) : am_T X 20 0 [some (.ref 16), some (.int (nI y)), none, none] [] (jm_s M L G) (0, 0) Q := by
  refine rg_X1_payIn_16_0 ?_
  have e0 : nI y * 12 = nI (12 * y + 0) := (pk_mul y 12).trans (congrArg nI (by omega))
  have e1 : (nI y + 1) * 12 = nI (12 * y + 12) := by
    rw [nI_1]
    exact (pk_mul (y + 1) 12).trans (congrArg nI (by omega))
  rw [e0]
  refine lp_dn (P := fun k => am_T X 20 7 [some (.ref 16), some (.int (nI y)), some (.int (jm_sf (M 21) (12 * y) k)), some (.int (nI (12 * y + k)))] [] (jm_s M L G) (0, 0) Q) 12 ?_ ?_ 0 (Nat.zero_le _)
  · refine rg_X1_payIn_16_7 ⟨fun _ => hQ, fun h => absurd ?_ h⟩
    rw [e1]
    exact nI_le (Nat.le_refl _) (by omega)
  · intro k hk ih
    refine rg_X1_payIn_16_7 ⟨fun h => absurd h ?_, fun _ => ⟨jm_in (by omega), ?_⟩⟩
    · rw [e1]
      exact nI_ge (by omega) (by omega)
    · rw [jm_cl (by omega), nI_1]
      exact ih
theorem ct_ofCountryIn_16 {y : Nat} {c : Int32} (hy : y < 30) (hQ : Q (some (some (.int (jm_sf (fun m => if M 20 m = c then 1 else 0) (12 * y) 12)))) (jm_s M L G)) : am_T X 19 0 [some (.ref 16), some (.int c), some (.int (nI y)), none, none] [] (jm_s M L G) (0, 0) Q := by
  refine rg_X1_ofCountryIn_16_0 ?_
  have e0 : nI y * 12 = nI (12 * y + 0) := (pk_mul y 12).trans (congrArg nI (by omega))
  have e1 : (nI y + 1) * 12 = nI (12 * y + 12) := by
    rw [nI_1]
    exact (pk_mul (y + 1) 12).trans (congrArg nI (by omega))
  rw [e0]
  refine lp_dn (P := fun k => am_T X 19 8 [some (.ref 16), some (.int c), some (.int (nI y)), some (.int (jm_sf (fun m => if M 20 m = c then 1 else 0) (12 * y) k)), some (.int (nI (12 * y + k)))] [] (jm_s M L G) (0, 0) Q) 12 ?_ ?_ 0 (Nat.zero_le _)
  · refine rg_X1_ofCountryIn_16_8 ⟨fun _ => hQ, fun h => absurd ?_ h⟩
    rw [e1]
    exact nI_le (Nat.le_refl _) (by omega)
  · intro k hk ih
    have ih2 : am_T X 19 8 [some (.ref 16), some (.int c), some (.int (nI y)), some (.int (jm_sf (fun m => if M 20 m = c then 1 else 0) (12 * y) k + (if M 20 (12 * y + k) = c then 1 else 0))), some (.int (nI (12 * y + (k + 1))))] [] (jm_s M L G) (0, 0) Q := ih
    refine rg_X1_ofCountryIn_16_8 ⟨fun h => absurd h ?_, fun _ => ⟨jm_in (by omega), fun h => ?_, fun h => ?_⟩⟩
    · rw [e1]
      exact nI_ge (by omega) (by omega)
    · rw [jm_cl (by omega)] at h
      rw [if_neg h] at ih2
      rw [nI_1]
      exact ih2
    · rw [jm_cl (by omega)] at h
      rw [if_pos h] at ih2
      rw [nI_1]
      exact ih2
end Leaves
