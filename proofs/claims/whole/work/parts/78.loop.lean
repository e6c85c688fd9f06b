/-! ===== the law's loop (written by wip/gen/gen_loop.py) ===== -/
theorem lw_neg : ∀ n, n < 7 → nI n - 7 < 0 := by decide +kernel
theorem lw_loop {X : Nat × (Nat → Int32)} {Q : am_Q} (hX : X.1 < 2147483000) (hQ : ∀ σ, jI σ → Q (some (some (.int 1))) σ) : ∀ r i σ u, jI σ → X.1 ≤ i + 7 * r + 6 → i ≤ X.1 → u.1 + r ≤ 601024 → u.2 + 6 * r ≤ 7293034 → am_T X 230 23 [some (.ref 1000), some (.ref 0), some (.ref 101), some (.ref 123), some (.int (nI i)), none, none, none] [] σ u Q := by
  intro r
  induction r with
  | zero =>
    intro i σ u hI h1 h2 h3 h4
    have hI2 := hI
    obtain ⟨M, L, G, a, e, hA, hC, hR⟩ := hI
    subst e
    refine rg_LW_23 ⟨fun _ => ⟨Or.inr rfl, hQ _ hI2⟩, fun h => absurd ?_ h⟩
    by_cases h7 : X.1 < 7
    · exact Int32.lt_of_lt_of_le (lw_neg X.1 h7) (nI_pos' (by omega))
    · rw [show nI X.1 - 7 = nI (X.1 - 7) from pk_sub (b := 7) (by omega)]
      exact nI_lt (by omega) (by omega)
  | succ r ih =>
    intro i σ u hI h1 h2 h3 h4
    have hI2 := hI
    obtain ⟨M, L, G, a, e, hA, hC, hR⟩ := hI
    subst e
    refine rg_LW_23 ⟨fun _ => ⟨Or.inr rfl, hQ _ hI2⟩, fun h => ?_⟩
    have hi : i + 7 ≤ X.1 := by
      refine Nat.le_of_not_lt (fun hlt => h ?_)
      by_cases h7 : X.1 < 7
      · exact Int32.lt_of_lt_of_le (lw_neg X.1 h7) (nI_pos' (by omega))
      · rw [show nI X.1 - 7 = nI (X.1 - 7) from pk_sub (b := 7) (by omega)]
        exact nI_lt (by omega) (by omega)
    have hv : ∀ w, w < 7 → vp_in (nI i + nI w) X.1 := by
      intro w hw
      rw [nI_add]
      exact vp_in_nI (by omega) (by omega)
    have go : ∀ (u' : Nat × Nat), u'.1 + r ≤ 601024 → u'.2 + 6 * r ≤ 7293034 → ∀ σ', jI σ' → am_T X 230 1738 [some (.ref 1000), some (.ref 0), some (.ref 101), some (.ref 123), some (.int (nI i)), none, none, none] [] σ' u' Q := by
      intro u' g1 g2 σ' hj
      have hj2 := hj
      obtain ⟨M2, L2, G2, a2, e, _⟩ := hj
      subst e
      refine rg_LW_1738 ?_
      rw [show nI i + 7 = nI (i + 7) from nI_add i 7]
      exact ih (i + 7) _ u' hj2 (by omega) hi g1 g2
    have next1 := go u (by omega) (by omega)
    have next2 := go (u.1 + 1, u.2 + 6) (by show u.1 + 1 + r ≤ _; omega) (by show u.2 + 6 + 6 * r ≤ _; omega)
    exact ⟨vp_in_nI (by omega) (by omega), ⟨fun _ => lc_0 hv hA hC hR next1, fun _ => ⟨fun _ => lc_1 hv hA hC hR next1, fun _ => ⟨fun _ => lc_2 hv hA hC hR next1, fun _ => ⟨fun _ => lc_3 hv hA hC hR next1, fun _ => ⟨fun _ => lc_4 hv hA hC hR next1, fun _ => ⟨fun _ => lc_5 hv hA hC hR next1, fun _ => ⟨fun _ => lc_6 (by omega) (by omega) hv hA hC hR next2, fun _ => ⟨fun _ => lc_7 (by omega) (by omega) hv hA hC hR next2, fun _ => ⟨fun _ => lc_8 (by omega) (by omega) hv hA hC hR next2, fun _ => ⟨fun _ => lc_9 hv hA hC hR next1, fun _ => ⟨fun _ => lc_10 hv hA hC hR next1, fun _ => ⟨fun _ => lc_11 hv hA hC hR next1, fun _ => ⟨fun _ => lc_12 hv hA hC hR next1, fun _ => ⟨fun _ => lc_13 hv hA hC hR next1, fun _ => ⟨fun _ => lc_14 hv hA hC hR next1, fun _ => ⟨fun _ => lc_15 hv hA hC hR next1, fun _ => ⟨fun _ => lc_16 hv hA hC hR next1, fun _ => ⟨fun _ => lc_17 hv hA hC hR next1, fun _ => ⟨fun _ => lc_18 hv hA hC hR next1, fun _ => ⟨fun _ => lc_19 hv hA hC hR next1, fun _ => ⟨fun _ => lc_20 hv hA hC hR next1, fun _ => ⟨fun _ => lc_21 hv hA hC hR next1, fun _ => ⟨fun _ => lc_22 hv hA hC hR next1, fun _ => ⟨fun _ => lc_23 hv hA hC hR next1, fun _ => ⟨fun _ => lc_24 hv hA hC hR next1, fun _ => ⟨fun _ => lc_25 hv hA hC hR next1, fun _ => ⟨fun _ => lc_26 hv hA hC hR next1, fun _ => ⟨fun _ => lc_27 hv hA hC hR next1, fun _ => ⟨fun _ => lc_28 hv hA hC hR next1, fun _ => ⟨fun _ => lc_29 hv hA hC hR next1, fun _ => ⟨fun _ => lc_30 hv hA hC hR next1, fun _ => ⟨fun _ => lc_31 hv hA hC hR next1, fun _ => ⟨fun _ => lc_32 hv hA hC hR next1, fun _ => ⟨fun _ => lc_33 hv hA hC hR next1, fun _ => ⟨fun _ => lc_34 hv hA hC hR next1, fun _ => ⟨fun _ => lc_35 hv hA hC hR next1, fun _ => ⟨fun _ => lc_36 hv hA hC hR next1, fun _ => ⟨fun _ => lc_37 hv hA hC hR next1, fun _ => ⟨fun _ => lc_38 hv hA hC hR next1, fun _ => ⟨fun _ => lc_39 hv hA hC hR next1, fun _ => ⟨fun _ => lc_40 hv hA hC hR next1, fun _ => ⟨fun _ => lc_41 hv hA hC hR next1, fun _ => ⟨fun _ => lc_42 hv hA hC hR next1, fun _ => ⟨fun _ => lc_43 hv hA hC hR next1, fun _ => ⟨fun _ => lc_44 (by omega) (by omega) hv hA hC hR next2, fun _ => next1 _ ⟨M, L, G, a, rfl, hA, hC, hR⟩⟩⟩⟩⟩⟩⟩⟩⟩⟩⟩⟩⟩⟩⟩⟩⟩⟩⟩⟩⟩⟩⟩⟩⟩⟩⟩⟩⟩⟩⟩⟩⟩⟩⟩⟩⟩⟩⟩⟩⟩⟩⟩⟩⟩⟩⟩
