/-! ===== MONTHS by a state (written by wip/gen/gen_months.py) ===== -/
def jm_of (sp : Nat → Int32) (k w : Nat) : Int32 := sp (5 * k + w)
def jm_pl (od : Nat → Int32) (x : Int32) : Nat → Nat → Nat
  | 0, k => k
  | n + 1, k => if od k = x then k else jm_pl od x n (k + 1)
def jm_sd (sp od : Nat → Int32) (k : Nat) : Int32 := (((nI (jm_pl od (jm_of sp k 1) 4 0) * 1000 + 999 - jm_of sp k 4) * 5 + jm_of sp k 0) * 64) + nI k
def jm_st (sp od : Nat → Int32) (m : Nat) : Nat → Int32
  | 0 => 1073741824
  | k + 1 => if jm_of sp k 2 ≤ nI m ∧ nI m ≤ jm_of sp k 3 then (if jm_sd sp od k < jm_st sp od m k then jm_sd sp od k else jm_st sp od m k) else jm_st sp od m k
def jm_cv (sp : Nat → Int32) (m : Nat) : Nat → Int32
  | 0 => 0
  | k + 1 => if jm_of sp k 2 ≤ nI m ∧ nI m ≤ jm_of sp k 3 then jm_cv sp m k + 1 else jm_cv sp m k
/-- every SPAN lasts from a MONTH to one that isn't ahead of it -/
def jm_ft (sp : Nat → Int32) (n : Nat) : Prop := ∀ k, k < n → ∃ f t : Nat, jm_of sp k 2 = nI f ∧ jm_of sp k 3 = nI t ∧ f ≤ t ∧ t < 360
def jm_I1 (M : Nat → Nat → Int32) (a b j : Nat) (M1 : Nat → Nat → Int32) : Prop := (∀ p, p ≠ a → p ≠ b → M1 p = M p) ∧ ∀ m, m < j → M1 a m = 1073741824 ∧ M1 b m = 0
def jm_I3 (M : Nat → Nat → Int32) (a b sp od k j : Nat) (M1 : Nat → Nat → Int32) : Prop := (∀ p, p ≠ a → p ≠ b → M1 p = M p) ∧ ∀ m, m < 360 → M1 a m = jm_st (M sp) (M od) m (if m < j then k + 1 else k) ∧ M1 b m = jm_cv (M sp) m (if m < j then k + 1 else k)
def jm_I2 (M : Nat → Nat → Int32) (a b sp od k : Nat) (M1 : Nat → Nat → Int32) : Prop := (∀ p, p ≠ a → p ≠ b → M1 p = M p) ∧ ∀ m, m < 360 → M1 a m = jm_st (M sp) (M od) m k ∧ M1 b m = jm_cv (M sp) m k
section Calls
variable {X : Nat × (Nat → Int32)}
theorem cl_i {y : Nat} {lo : am_L} {σ σ1 : am_S} {v : Int32} {P : Int32 → am_S → Prop} (hc : ∀ Q : am_Q, Q (some (some (.int v))) σ1 → am_T X y 0 lo [] σ (0, 0) Q) (hk : P v σ1) : ∃ K : Int32 → am_S → Prop, am_T X y 0 lo [] σ (0, 0) (am_qi K) ∧ ∀ v σ', K v σ' → P v σ' :=
  ⟨fun v' σ' => v' = v ∧ σ' = σ1, hc _ ⟨v, rfl, rfl, rfl⟩, fun v' σ' h => by rw [h.1, h.2]; exact hk⟩
end Calls
section Inst16_5
variable {X : Nat × (Nat → Int32)} {M : Nat → Nat → Int32} {L : Nat → Nat → Int64} {G : Nat → Nat → Option Nat} {Q : am_Q}
theorem ct_numberOf_5 {k w : Nat} (hk : 5 * k + w < 100) (hQ : Q (some (some (.int (jm_of (M 9) k w)))) (jm_s M L G)) : am_T X 28 0 [some (.ref 5), some (.int (nI k)), some (.int (nI w))] [] (jm_s M L G) (0, 0) Q := by
  have e : nI k * 5 + nI w = nI (5 * k + w) := by
    rw [show nI k * 5 = nI (k * 5) from pk_mul k 5, nI_add, Nat.mul_comm k 5]
  refine rg_X3_numberOf_5_0 ?_
  rw [e, nI_clamp (by omega)]
  exact ⟨vp_in_nI hk (by decide), hQ⟩
theorem ct_placeOf_5 {x : Int32} (hQ : Q (some (some (.int (nI (jm_pl (M 7) x 4 0))))) (jm_s M L G)) : am_T X 42 0 [some (.ref 5), some (.int x), none] [] (jm_s M L G) (0, 0) Q := by
  refine rg_X3_placeOf_5_0 ?_
  have h : ∀ n k, k + n = 4 → Q (some (some (.int (nI (jm_pl (M 7) x n k))))) (jm_s M L G) → am_T X 42 2 [some (.ref 5), some (.int x), some (.int (nI k))] [] (jm_s M L G) (0, 0) Q := by
    intro n
    induction n with
    | zero =>
      intro k e hq
      have e2 : k = 4 := e
      subst e2
      exact rg_X3_placeOf_5_2 ⟨fun _ => hq, fun h => absurd (nI_le (Nat.le_refl 4) (by decide)) h⟩
    | succ n ih =>
      intro k e hq
      have hk : k < 4 := by omega
      unfold jm_pl at hq
      refine rg_X3_placeOf_5_2 ⟨fun h => absurd h (nI_ge hk (by decide)), fun _ => ⟨vp_in_nI hk (by decide), fun h => ?_, fun h => ?_⟩⟩
      · rw [nI_clamp (by omega)] at h
        rw [if_neg h] at hq
        rw [nI_1]
        exact ih (k + 1) (by omega) hq
      · rw [nI_clamp (by omega)] at h
        rw [if_pos h] at hq
        exact hq
  exact h 4 0 rfl hQ
theorem ct_standingOf_5 {k : Nat} (hk : 5 * k + 4 < 100) (hQ : Q (some (some (.int (jm_sd (M 9) (M 7) k)))) (jm_s M L G)) : am_T X 12 0 [some (.ref 5), some (.int (nI k)), none] [] (jm_s M L G) (0, 0) Q :=
  rg_X1_standingOf_5_0 (cl_i (fun _ h => ct_numberOf_5 (w := 1) (by omega) h)
    (rg_X1_standingOf_5_7 (cl_i (fun _ h => ct_placeOf_5 h)
      (rg_X1_standingOf_5_10 (cl_i (fun _ h => ct_numberOf_5 (w := 4) (by omega) h)
        (rg_X1_standingOf_5_26 (cl_i (fun _ h => ct_numberOf_5 (w := 0) (by omega) h)
          (rg_X1_standingOf_5_37 hQ))))))))
theorem ct_cover_16_5 {n : Nat} (hn : M 5 0 = nI n) (hn2 : 5 * n ≤ 100) (hv : jm_ft (M 9) n) (hQ : ∀ M', jm_I2 M 17 18 9 7 n M' → Q (some none) (jm_s M' L G)) : am_T X 11 0 [some (.ref 16), some (.ref 5), none, none, none, none] [] (jm_s M L G) (0, 0) Q := by
  refine rg_X1_cover_16_5_0 ?_
  -- over the SPANS
  have l2 : ∀ k, k ≤ n → ∀ M1, jm_I2 M 17 18 9 7 k M1 → am_T X 11 32 [some (.ref 16), some (.ref 5), some (.int (nI k)), none, none, none] [] (jm_s M1 L G) (0, 0) Q := by
    refine lp_dn n ?_ ?_
    · intro M1 hI
      refine rg_X1_cover_16_5_32 ⟨fun _ => hQ M1 hI, fun h => absurd ?_ h⟩
      rw [hI.1 5 (by decide) (by decide), hn]
      exact nI_le (Nat.le_refl n) (by omega)
    · intro k hk ih M1 hI
      obtain ⟨f, t, hf, ht, hft, ht2⟩ := hv k hk
      refine rg_X1_cover_16_5_32 ⟨fun h => absurd h ?_, fun _ => ?_⟩
      · rw [hI.1 5 (by decide) (by decide), hn]
        exact nI_ge hk (by omega)
      have e9 : M1 9 = M 9 := hI.1 9 (by decide) (by decide)
      have e7 : M1 7 = M 7 := hI.1 7 (by decide) (by decide)
      refine cl_i (fun _ h => ct_standingOf_5 (by omega) h) ?_
      refine rg_X1_cover_16_5_45 (cl_i (fun _ h => ct_numberOf_5 (w := 3) (by omega) h) ?_)
      refine rg_X1_cover_16_5_52 (cl_i (fun _ h => ct_numberOf_5 (w := 2) (by omega) h) ?_)
      refine rg_X1_cover_16_5_60 ?_
      rw [e9, e7, hf, ht]
      -- over its MONTHS
      have l3 : ∀ j, j ≤ t + 1 → f ≤ j → ∀ M2, jm_I3 M 17 18 9 7 k j M2 → am_T X 11 62 [some (.ref 16), some (.ref 5), some (.int (nI k)), some (.int (jm_sd (M 9) (M 7) k)), some (.int (nI t)), some (.int (nI j))] [] (jm_s M2 L G) (0, 0) Q := by
        refine lp_dn (t + 1) ?_ ?_
        · intro _ M2 hI2
          refine rg_X1_cover_16_5_62 ⟨fun _ => ?_, fun h => absurd (nI_lt (Nat.lt_succ_self t) (by omega)) h⟩
          rw [nI_1]
          refine ih M2 ⟨hI2.1, fun m hm => ?_⟩
          obtain ⟨g1, g2⟩ := hI2.2 m hm
          by_cases hmt : m < t + 1
          · rw [if_pos hmt] at g1 g2
            exact ⟨g1, g2⟩
          · rw [if_neg hmt] at g1 g2
            have hc : ¬ (jm_of (M 9) k 2 ≤ nI m ∧ nI m ≤ jm_of (M 9) k 3) := by
              rw [ht]
              exact fun h => nI_ge (show t < m by omega) (by omega) h.2
            exact ⟨by rw [g1, jm_st, if_neg hc], by rw [g2, jm_cv, if_neg hc]⟩
        · intro j hj ih2 hfj M2 hI2
          have hj3 : j < 360 := by omega
          refine rg_X1_cover_16_5_62 ⟨fun h => absurd h (nI_nlt (by omega) (by omega)), fun _ => ⟨jm_in hj3, jm_in hj3, jm_in hj3, jm_in hj3, ?_⟩⟩
          rw [nI_1, jm_cl hj3]
          refine ih2 (by omega) _ ⟨fun p h1 h2 => ?_, fun m hm => ?_⟩
          · rw [← hI2.1 p h1 h2]
            funext i
            rw [wi_m_eq, if_neg h1, wi_m_eq, if_neg h2]
          · obtain ⟨g1, g2⟩ := hI2.2 m hm
            rw [wi_m_eq, if_pos rfl, wi_m_eq, if_neg (show ¬ 17 = 18 by decide), wi_m_eq, if_neg (show ¬ 18 = 17 by decide), wi_m_eq, if_pos rfl]
            by_cases hmj : m = j
            · subst hmj
              rw [if_neg (Nat.lt_irrefl m)] at g1 g2
              have hc : jm_of (M 9) k 2 ≤ nI m ∧ nI m ≤ jm_of (M 9) k 3 := by
                rw [hf, ht]
                exact ⟨nI_le hfj (by omega), nI_le (by omega) (by omega)⟩
              rw [if_pos rfl, if_pos rfl, if_pos (Nat.lt_succ_self m), jm_st, jm_cv, if_pos hc, if_pos hc, g1, g2]
              exact ⟨rfl, rfl⟩
            · rw [if_neg hmj, if_neg hmj]
              by_cases hlt : m < j
              · rw [if_pos hlt] at g1 g2
                rw [if_pos (show m < j + 1 by omega)]
                exact ⟨g1, g2⟩
              · rw [if_neg hlt] at g1 g2
                rw [if_neg (show ¬ m < j + 1 by omega)]
                exact ⟨g1, g2⟩
      refine l3 f (by omega) (Nat.le_refl f) M1 ⟨hI.1, fun m hm => ?_⟩
      obtain ⟨g1, g2⟩ := hI.2 m hm
      by_cases hmf : m < f
      · have hc : ¬ (jm_of (M 9) k 2 ≤ nI m ∧ nI m ≤ jm_of (M 9) k 3) := by
          rw [hf]
          exact fun h => nI_ge hmf (by omega) h.1
        rw [if_pos hmf, jm_st, jm_cv, if_neg hc, if_neg hc]
        exact ⟨g1, g2⟩
      · rw [if_neg hmf]
        exact ⟨g1, g2⟩
  -- all MONTHS uncovered
  have l1 : ∀ j, j ≤ 360 → ∀ M1, jm_I1 M 17 18 j M1 → am_T X 11 2 [some (.ref 16), some (.ref 5), some (.int (nI j)), none, none, none] [] (jm_s M1 L G) (0, 0) Q := by
    refine lp_dn 360 ?_ ?_
    · intro M1 hI
      exact rg_X1_cover_16_5_2 ⟨fun _ => l2 0 (Nat.zero_le n) M1 ⟨hI.1, fun m hm => hI.2 m hm⟩, fun h => absurd jm_3e h⟩
    · intro j hj ih M1 hI
      refine rg_X1_cover_16_5_2 ⟨fun h => absurd h (jm_3 hj), fun _ => ⟨jm_in hj, jm_in hj, ?_⟩⟩
      rw [nI_1, jm_cl hj]
      refine ih _ ⟨fun p h1 h2 => ?_, fun m hm => ?_⟩
      · rw [← hI.1 p h1 h2]
        funext i
        rw [wi_m_eq, if_neg h2, wi_m_eq, if_neg h1]
      · rw [wi_m_eq, if_neg (show ¬ 17 = 18 by decide), wi_m_eq, if_pos rfl, wi_m_eq, if_pos rfl, wi_m_eq, if_neg (show ¬ 18 = 17 by decide)]
        by_cases hmj : m = j
        · rw [if_pos hmj, if_pos hmj]
          exact ⟨rfl, rfl⟩
        · rw [if_neg hmj, if_neg hmj]
          exact hI.2 m (by omega)
  exact l1 0 (Nat.zero_le _) M ⟨fun _ _ _ => rfl, fun m hm => absurd hm (Nat.not_lt_zero m)⟩
end Inst16_5
section Inst32_10
variable {X : Nat × (Nat → Int32)} {M : Nat → Nat → Int32} {L : Nat → Nat → Int64} {G : Nat → Nat → Option Nat} {Q : am_Q}
theorem ct_numberOf_10 {k w : Nat} (hk : 5 * k + w < 220) (hQ : Q (some (some (.int (jm_of (M 14) k w)))) (jm_s M L G)) : am_T X 28 0 [some (.ref 10), some (.int (nI k)), some (.int (nI w))] [] (jm_s M L G) (0, 0) Q := by
  have e : nI k * 5 + nI w = nI (5 * k + w) := by
    rw [show nI k * 5 = nI (k * 5) from pk_mul k 5, nI_add, Nat.mul_comm k 5]
  refine rg_X3_numberOf_10_0 ?_
  rw [e, nI_clamp (by omega)]
  exact ⟨vp_in_nI hk (by decide), hQ⟩
theorem ct_placeOf_10 {x : Int32} (hQ : Q (some (some (.int (nI (jm_pl (M 12) x 4 0))))) (jm_s M L G)) : am_T X 42 0 [some (.ref 10), some (.int x), none] [] (jm_s M L G) (0, 0) Q := by
  refine rg_X3_placeOf_10_0 ?_
  have h : ∀ n k, k + n = 4 → Q (some (some (.int (nI (jm_pl (M 12) x n k))))) (jm_s M L G) → am_T X 42 2 [some (.ref 10), some (.int x), some (.int (nI k))] [] (jm_s M L G) (0, 0) Q := by
    intro n
    induction n with
    | zero =>
      intro k e hq
      have e2 : k = 4 := e
      subst e2
      exact rg_X3_placeOf_10_2 ⟨fun _ => hq, fun h => absurd (nI_le (Nat.le_refl 4) (by decide)) h⟩
    | succ n ih =>
      intro k e hq
      have hk : k < 4 := by omega
      unfold jm_pl at hq
      refine rg_X3_placeOf_10_2 ⟨fun h => absurd h (nI_ge hk (by decide)), fun _ => ⟨vp_in_nI hk (by decide), fun h => ?_, fun h => ?_⟩⟩
      · rw [nI_clamp (by omega)] at h
        rw [if_neg h] at hq
        rw [nI_1]
        exact ih (k + 1) (by omega) hq
      · rw [nI_clamp (by omega)] at h
        rw [if_pos h] at hq
        exact hq
  exact h 4 0 rfl hQ
theorem ct_standingOf_10 {k : Nat} (hk : 5 * k + 4 < 220) (hQ : Q (some (some (.int (jm_sd (M 14) (M 12) k)))) (jm_s M L G)) : am_T X 12 0 [some (.ref 10), some (.int (nI k)), none] [] (jm_s M L G) (0, 0) Q :=
  rg_X1_standingOf_10_0 (cl_i (fun _ h => ct_numberOf_10 (w := 1) (by omega) h)
    (rg_X1_standingOf_10_7 (cl_i (fun _ h => ct_placeOf_10 h)
      (rg_X1_standingOf_10_10 (cl_i (fun _ h => ct_numberOf_10 (w := 4) (by omega) h)
        (rg_X1_standingOf_10_26 (cl_i (fun _ h => ct_numberOf_10 (w := 0) (by omega) h)
          (rg_X1_standingOf_10_37 hQ))))))))
theorem ct_cover_32_10 {n : Nat} (hn : M 10 0 = nI n) (hn2 : 5 * n ≤ 220) (hv : jm_ft (M 14) n) (hQ : ∀ M', jm_I2 M 33 34 14 12 n M' → Q (some none) (jm_s M' L G)) : am_T X 11 0 [some (.ref 32), some (.ref 10), none, none, none, none] [] (jm_s M L G) (0, 0) Q := by
  refine rg_X1_cover_32_10_0 ?_
  -- over the SPANS
  have l2 : ∀ k, k ≤ n → ∀ M1, jm_I2 M 33 34 14 12 k M1 → am_T X 11 32 [some (.ref 32), some (.ref 10), some (.int (nI k)), none, none, none] [] (jm_s M1 L G) (0, 0) Q := by
    refine lp_dn n ?_ ?_
    · intro M1 hI
      refine rg_X1_cover_32_10_32 ⟨fun _ => hQ M1 hI, fun h => absurd ?_ h⟩
      rw [hI.1 10 (by decide) (by decide), hn]
      exact nI_le (Nat.le_refl n) (by omega)
    · intro k hk ih M1 hI
      obtain ⟨f, t, hf, ht, hft, ht2⟩ := hv k hk
      refine rg_X1_cover_32_10_32 ⟨fun h => absurd h ?_, fun _ => ?_⟩
      · rw [hI.1 10 (by decide) (by decide), hn]
        exact nI_ge hk (by omega)
      have e9 : M1 14 = M 14 := hI.1 14 (by decide) (by decide)
      have e7 : M1 12 = M 12 := hI.1 12 (by decide) (by decide)
      refine cl_i (fun _ h => ct_standingOf_10 (by omega) h) ?_
      refine rg_X1_cover_32_10_45 (cl_i (fun _ h => ct_numberOf_10 (w := 3) (by omega) h) ?_)
      refine rg_X1_cover_32_10_52 (cl_i (fun _ h => ct_numberOf_10 (w := 2) (by omega) h) ?_)
      refine rg_X1_cover_32_10_60 ?_
      rw [e9, e7, hf, ht]
      -- over its MONTHS
      have l3 : ∀ j, j ≤ t + 1 → f ≤ j → ∀ M2, jm_I3 M 33 34 14 12 k j M2 → am_T X 11 62 [some (.ref 32), some (.ref 10), some (.int (nI k)), some (.int (jm_sd (M 14) (M 12) k)), some (.int (nI t)), some (.int (nI j))] [] (jm_s M2 L G) (0, 0) Q := by
        refine lp_dn (t + 1) ?_ ?_
        · intro _ M2 hI2
          refine rg_X1_cover_32_10_62 ⟨fun _ => ?_, fun h => absurd (nI_lt (Nat.lt_succ_self t) (by omega)) h⟩
          rw [nI_1]
          refine ih M2 ⟨hI2.1, fun m hm => ?_⟩
          obtain ⟨g1, g2⟩ := hI2.2 m hm
          by_cases hmt : m < t + 1
          · rw [if_pos hmt] at g1 g2
            exact ⟨g1, g2⟩
          · rw [if_neg hmt] at g1 g2
            have hc : ¬ (jm_of (M 14) k 2 ≤ nI m ∧ nI m ≤ jm_of (M 14) k 3) := by
              rw [ht]
              exact fun h => nI_ge (show t < m by omega) (by omega) h.2
            exact ⟨by rw [g1, jm_st, if_neg hc], by rw [g2, jm_cv, if_neg hc]⟩
        · intro j hj ih2 hfj M2 hI2
          have hj3 : j < 360 := by omega
          refine rg_X1_cover_32_10_62 ⟨fun h => absurd h (nI_nlt (by omega) (by omega)), fun _ => ⟨jm_in hj3, jm_in hj3, jm_in hj3, jm_in hj3, ?_⟩⟩
          rw [nI_1, jm_cl hj3]
          refine ih2 (by omega) _ ⟨fun p h1 h2 => ?_, fun m hm => ?_⟩
          · rw [← hI2.1 p h1 h2]
            funext i
            rw [wi_m_eq, if_neg h1, wi_m_eq, if_neg h2]
          · obtain ⟨g1, g2⟩ := hI2.2 m hm
            rw [wi_m_eq, if_pos rfl, wi_m_eq, if_neg (show ¬ 33 = 34 by decide), wi_m_eq, if_neg (show ¬ 34 = 33 by decide), wi_m_eq, if_pos rfl]
            by_cases hmj : m = j
            · subst hmj
              rw [if_neg (Nat.lt_irrefl m)] at g1 g2
              have hc : jm_of (M 14) k 2 ≤ nI m ∧ nI m ≤ jm_of (M 14) k 3 := by
                rw [hf, ht]
                exact ⟨nI_le hfj (by omega), nI_le (by omega) (by omega)⟩
              rw [if_pos rfl, if_pos rfl, if_pos (Nat.lt_succ_self m), jm_st, jm_cv, if_pos hc, if_pos hc, g1, g2]
              exact ⟨rfl, rfl⟩
            · rw [if_neg hmj, if_neg hmj]
              by_cases hlt : m < j
              · rw [if_pos hlt] at g1 g2
                rw [if_pos (show m < j + 1 by omega)]
                exact ⟨g1, g2⟩
              · rw [if_neg hlt] at g1 g2
                rw [if_neg (show ¬ m < j + 1 by omega)]
                exact ⟨g1, g2⟩
      refine l3 f (by omega) (Nat.le_refl f) M1 ⟨hI.1, fun m hm => ?_⟩
      obtain ⟨g1, g2⟩ := hI.2 m hm
      by_cases hmf : m < f
      · have hc : ¬ (jm_of (M 14) k 2 ≤ nI m ∧ nI m ≤ jm_of (M 14) k 3) := by
          rw [hf]
          exact fun h => nI_ge hmf (by omega) h.1
        rw [if_pos hmf, jm_st, jm_cv, if_neg hc, if_neg hc]
        exact ⟨g1, g2⟩
      · rw [if_neg hmf]
        exact ⟨g1, g2⟩
  -- all MONTHS uncovered
  have l1 : ∀ j, j ≤ 360 → ∀ M1, jm_I1 M 33 34 j M1 → am_T X 11 2 [some (.ref 32), some (.ref 10), some (.int (nI j)), none, none, none] [] (jm_s M1 L G) (0, 0) Q := by
    refine lp_dn 360 ?_ ?_
    · intro M1 hI
      exact rg_X1_cover_32_10_2 ⟨fun _ => l2 0 (Nat.zero_le n) M1 ⟨hI.1, fun m hm => hI.2 m hm⟩, fun h => absurd jm_3e h⟩
    · intro j hj ih M1 hI
      refine rg_X1_cover_32_10_2 ⟨fun h => absurd h (jm_3 hj), fun _ => ⟨jm_in hj, jm_in hj, ?_⟩⟩
      rw [nI_1, jm_cl hj]
      refine ih _ ⟨fun p h1 h2 => ?_, fun m hm => ?_⟩
      · rw [← hI.1 p h1 h2]
        funext i
        rw [wi_m_eq, if_neg h2, wi_m_eq, if_neg h1]
      · rw [wi_m_eq, if_neg (show ¬ 33 = 34 by decide), wi_m_eq, if_pos rfl, wi_m_eq, if_pos rfl, wi_m_eq, if_neg (show ¬ 34 = 33 by decide)]
        by_cases hmj : m = j
        · rw [if_pos hmj, if_pos hmj]
          exact ⟨rfl, rfl⟩
        · rw [if_neg hmj, if_neg hmj]
          exact hI.2 m (by omega)
  exact l1 0 (Nat.zero_le _) M ⟨fun _ _ _ => rfl, fun m hm => absurd hm (Nat.not_lt_zero m)⟩
end Inst32_10
