/-! ===== pairs: part, both (written by wip/gen/gen_pp4.py) ===== -/
section PP4
variable {X : Nat × (Nat → Int32)} {M : Nat → Nat → Int32} {L : Nat → Nat → Int64} {G : Nat → Nat → Option Nat} {Q : am_Q} {a : jA}
theorem ct_commonDivisor {u l : Nat} (hu : u ≤ 360) (hl : 0 < l) (hl2 : l ≤ 360) (hQ : Q (some (some (.int (nI (Nat.gcd u l))))) (jm_s M L G)) : am_T X 108 0 [some (.int (nI u)), some (.int (nI l)), none, none, none, none] [] (jm_s M L G) (0, 0) Q := by
  refine rg_X5_commonDivisor_0 ?_
  have hg : 0 < Nat.gcd u l := Nat.gcd_pos_of_pos_right u hl
  have hg2 : Nat.gcd u l ≤ l := Nat.gcd_le_right u hl
  have fin : ∀ x, x = Nat.gcd u l → Q (some (some (.int (if 1 < nI x then nI x else 1)))) (jm_s M L G) := by
    intro x e
    subst e
    by_cases h1 : 1 < nI (Nat.gcd u l)
    · rw [if_pos h1]
      exact hQ
    · rw [if_neg h1]
      have h2 : ¬ 1 < Nat.gcd u l := fun q => h1 ((nI_lt_iff (show 1 < 2147483648 by decide) (show Nat.gcd u l < 2147483648 by omega)).mpr q)
      have h3 : Nat.gcd u l = 1 := by omega
      rw [h3] at hQ
      exact hQ
  have h : ∀ n i x y, i + n = 360 → x ≤ 360 → y ≤ n → Nat.gcd x y = Nat.gcd u l → am_T X 108 7 [none, none, some (.int (nI x)), some (.int (nI y)), some (.int (nI i)), none] [] (jm_s M L G) (0, 0) Q := by
    intro n
    induction n with
    | zero =>
      intro i x y hi hx hy e
      have hi2 : i = 360 := hi
      subst hi2
      have hy0 : y = 0 := by omega
      subst hy0
      rw [Nat.gcd_zero_right] at e
      exact rn_X5_commonDivisor_7 ⟨fun _ => fin x e, fun h => absurd jm_3e h⟩
    | succ n ih =>
      intro i x y hi hx hy e
      have hi3 : i < 360 := by omega
      refine rn_X5_commonDivisor_7 ⟨fun h => absurd h (jm_3 hi3), fun _ => ⟨fun h => ?_, fun h => ?_⟩⟩
      · have hy0 := (nI_le0 (show y < 2147483648 by omega)).mp h
        subst hy0
        rw [Nat.gcd_zero_right] at e
        exact fin x e
      · have hy0 : y ≠ 0 := fun q => h ((nI_le0 (show y < 2147483648 by omega)).mpr q)
        refine ⟨fun q => hy0 ((nI_eq0 (show y < 2147483648 by omega)).mp q), ?_⟩
        rw [am_rem_nI (by omega) (by omega) (by omega), nI_1]
        have hlt := Nat.mod_lt x (show y > 0 by omega)
        exact ih (i + 1) y (x % y) (by omega) (by omega) (by omega) (by rw [← jm_gcd]; exact e)
  exact h 360 0 l u rfl hl2 hu (Nat.gcd_comm l u)
theorem ct_common {u l : Nat} (hu : u ≤ 360) (hl2 : l ≤ 360) (hQ : Q (some (some (.int (nI (Nat.gcd u l))))) (jm_s M L G)) : am_T X 202 0 [some (.int (nI u)), some (.int (nI l)), none, none, none] [] (jm_s M L G) (0, 0) Q := by
  refine rg_X6_common_0 ?_
  have h : ∀ n x y, x ≤ 360 → y ≤ n → y ≤ 360 → Nat.gcd x y = Nat.gcd u l → am_T X 202 4 [none, none, some (.int (nI x)), some (.int (nI y)), none] [] (jm_s M L G) (0, 0) Q := by
    intro n
    induction n with
    | zero =>
      intro x y hx hy hy2 e
      have hy0 : y = 0 := Nat.le_zero.mp hy
      subst hy0
      rw [Nat.gcd_zero_right] at e
      refine rn_X6_common_4 ⟨fun _ => ?_, fun h => absurd rfl h⟩
      rw [e]
      exact hQ
    | succ n ih =>
      intro x y hx hy hy2 e
      refine rn_X6_common_4 ⟨fun h => ?_, fun h => ?_⟩
      · have hy0 := (nI_eq0 (show y < 2147483648 by omega)).mp h
        subst hy0
        rw [Nat.gcd_zero_right] at e
        rw [e]
        exact hQ
      · have hy0 : y ≠ 0 := fun q => h ((nI_eq0 (show y < 2147483648 by omega)).mpr q)
        rw [am_rem_nI (by omega) (by omega) (by omega)]
        have hlt := Nat.mod_lt x (show y > 0 by omega)
        exact ih y (x % y) (by omega) (by omega) (by omega) (by rw [← jm_gcd]; exact e)
  exact h 360 u l hu hl2 hl2 rfl
theorem pp_part (hA : jAw a) (hC : jC M L G a) (hR : jRR M L a) (x y : Int32) : jpp X (jm_s M L G) 87 [some (.ref 0), some (.int x), some (.int y), none, none, none, none] 203 [some (.ref 101), some (.int x), some (.int y), none, none, none] := by
  have hw := jw_44 hA.1
  obtain ⟨k1, ⟨k2, k3, k4, k5, k6⟩, k7⟩ := hC.1.1.2
  rcases jx_case 5 (by decide) x with h | ⟨c, hc, rfl⟩
  · refine pp_rd hA hC hR (v := -1) (fun Q hQ => rg_X5_part_0_0 (cl_i (fun _ h' => ct_isCountry_n h h') (rn_X5_part_0_4 ⟨fun _ => hQ, fun e => absurd rfl e⟩))) (fun Q hQ => rg_X6_part_101_0 (cl_i (fun _ h' => ct_risCountry h') ?_))
    rw [rc_n h]
    exact rn_X6_part_101_9 ⟨fun _ => hQ _ (jfr_0 M 0), fun e => absurd rfl e⟩
  rcases jx_case 360 (by decide) y with h | ⟨m, hm, rfl⟩
  · refine pp_rd hA hC hR (v := -1) (fun Q hQ => rg_X5_part_0_0 (cl_i (fun _ h' => ct_isCountry_y hc h') (rn_X5_part_0_4 ⟨fun e => absurd e (by decide), fun _ => cl_i (fun _ h' => ct_isMonth_n h h') (rn_X5_part_0_11 ⟨fun _ => hQ, fun e => absurd rfl e⟩)⟩))) (fun Q hQ => rg_X6_part_101_0 (cl_i (fun _ h' => ct_risCountry h') ?_))
    rw [rc_y hc]
    refine rn_X6_part_101_9 ⟨fun e => absurd e (by decide), fun _ => cl_i (fun _ h' => ct_risMonth h') ?_⟩
    rw [rm_n h]
    exact rn_X6_part_101_16 ⟨fun _ => hQ _ (jfr_0 M 0), fun e => absurd rfl e⟩
  obtain ⟨u, hu, eu⟩ := jm_sm_01 (f := fun i => if jc_ld (ja_s a) i = nI c then 1 else 0) (n := m + 1) (fun k _ => by
    by_cases h : jc_ld (ja_s a) k = nI c
    · exact Or.inr (if_pos h)
    · exact Or.inl (if_neg h))
  obtain ⟨l, hl, el⟩ := jm_sm_01 (f := fun i => if jc_ld (ja_s a) i = -1 then 0 else 1) (n := m + 1) (fun k _ => by
    by_cases h : jc_ld (ja_s a) k = -1
    · exact Or.inl (if_pos h)
    · exact Or.inr (if_neg h))
  -- the class's loop
  have cl : ∀ Q : am_Q, am_T X 87 24 [some (.ref 0), some (.int (nI c)), some (.int (nI m)), some (.int (nI u)), some (.int (nI l)), some (.int (nI (m + 1))), none] [] (jm_s M L G) (0, 0) Q → am_T X 87 0 [some (.ref 0), some (.int (nI c)), some (.int (nI m)), none, none, none, none] [] (jm_s M L G) (0, 0) Q := by
    intro Q hQ
    refine rg_X5_part_0_0 (cl_i (fun _ h' => ct_isCountry_y hc h') (rn_X5_part_0_4 ⟨fun e => absurd e (by decide), fun _ => cl_i (fun _ h' => ct_isMonth_y hm h') (rn_X5_part_0_11 ⟨fun e => absurd e (by decide), fun _ => ?_⟩)⟩))
    refine lp_dn (P := fun k => am_T X 87 24 [some (.ref 0), some (.int (nI c)), some (.int (nI m)), some (.int (jm_sm (fun i => if jc_ld (ja_s a) i = nI c then 1 else 0) k)), some (.int (jm_sm (fun i => if jc_ld (ja_s a) i = -1 then 0 else 1) k)), some (.int (nI k)), none] [] (jm_s M L G) (0, 0) Q) (m + 1) ?_ ?_ 0 (by omega)
    · rw [eu, el]
      exact hQ
    · intro k hk ih
      rw [jm_sm_s, jm_sm_s] at ih
      refine rn_X5_part_0_24 ⟨fun h => absurd h (nI_nlt (by omega) (by omega)), fun _ => ⟨jm_in (by omega), ?_⟩⟩
      rw [jm_cl (by omega), nI_1 k, show M 20 k = jc_ld (ja_s a) k from (k1.1 k (by omega)).2.2.1]
      refine ⟨fun h1 => ⟨fun h2 => ?_, fun h2 => ?_⟩, fun h1 => ⟨fun h2 => ?_, fun h2 => ?_⟩⟩
      · rw [if_pos h1, if_pos h2] at ih
        exact ih
      · rw [if_pos h1, if_neg h2] at ih
        exact ih
      · rw [if_neg h1, if_pos h2] at ih
        exact ih
      · rw [if_neg h1, if_neg h2] at ih
        exact ih
  have rl : ∀ M1 L1, jRR M1 L1 a → ∀ Q : am_Q, (∀ M2, jfr M1 M2 → am_T X 203 33 [some (.ref 101), some (.int (nI c)), some (.int (nI m)), some (.int (nI u)), some (.int (nI l)), some (.int (nI (m + 1)))] [] (jm_s M2 L1 G) (0, 0) Q) → am_T X 203 0 [some (.ref 101), some (.int (nI c)), some (.int (nI m)), none, none, none] [] (jm_s M1 L1 G) (0, 0) Q := by
    intro M1 L1 hR1 Q hQ
    refine rg_X6_part_101_0 (cl_i (fun _ h' => ct_risCountry h') ?_)
    rw [rc_y hc]
    refine rn_X6_part_101_9 ⟨fun e => absurd e (by decide), fun _ => cl_i (fun _ h' => ct_risMonth h') ?_⟩
    rw [rm_y hm]
    refine rn_X6_part_101_16 ⟨fun e => absurd e (by decide), fun _ => cl_v (ct_lay0 hR1.1.1 hw (fun M2 f hL hR2 => ⟨rfl, rg_X6_part_101_25 ?_⟩))⟩
    have hQ := hQ M2 f
    refine lp_dn (P := fun k => am_T X 203 33 [some (.ref 101), some (.int (nI c)), some (.int (nI m)), some (.int (jm_sm (fun i => if jc_ld (ja_s a) i = nI c then 1 else 0) k)), some (.int (jm_sm (fun i => if jc_ld (ja_s a) i = -1 then 0 else 1) k)), some (.int (nI k))] [] (jm_s M2 L1 G) (0, 0) Q) (m + 1) ?_ ?_ 0 (by omega)
    · rw [eu, el]
      exact hQ
    · intro k hk ih
      rw [jm_sm_s, jm_sm_s] at ih
      have h0 := jc_so_0 hw (by decide) (show k < 360 by omega)
      refine rn_X6_part_101_33 ⟨fun h => absurd h (nI_nlt (by omega) (by omega)), fun _ => ⟨jm_in (by omega), ?_⟩⟩
      rw [jm_cl (by omega), nI_1 k, (hL.1 k (by omega)).2.1, (hL.1 k (by omega)).1]
      refine ⟨fun h1 => ⟨fun h2 => ?_, fun h2 => ?_⟩, fun h1 => ⟨fun h2 => ?_, fun h2 => ?_⟩⟩
      · rw [if_pos h1, if_pos (h0.mp h2)] at ih
        exact ih
      · rw [if_pos h1, if_neg (fun e => h2 (h0.mpr e))] at ih
        exact ih
      · rw [if_neg h1, if_pos (h0.mp h2)] at ih
        exact ih
      · rw [if_neg h1, if_neg (fun e => h2 (h0.mpr e))] at ih
        exact ih
  have hlt : nI m < nI (m + 1) := nI_lt (Nat.lt_succ_self m) (by omega)
  by_cases hz : l = 0
  · have hz2 : nI l = 0 := by rw [hz]; rfl
    exact pp_rd hA hC hR (v := -2) (fun Q hQ => cl Q (rn_X5_part_0_24 ⟨fun _ => ⟨fun _ => hQ, fun e => absurd hz2 e⟩, fun e => absurd hlt e⟩)) (fun Q hQ => rl M L hR Q (fun M2 f => rn_X6_part_101_33 ⟨fun _ => ⟨fun _ => hQ M2 f, fun e => absurd hz2 e⟩, fun e => absurd hlt e⟩))
  · have hz2 : ¬ nI l = 0 := fun e => hz ((nI_eq0 (show l < 2147483648 by omega)).mp e)
    have hg : 0 < Nat.gcd u l := Nat.gcd_pos_of_pos_right u (by omega)
    have hg2 : Nat.gcd u l ≤ l := Nat.gcd_le_right u (by omega)
    have hg3 : ¬ nI (Nat.gcd u l) = 0 := fun e => by
      have := (nI_eq0 (show Nat.gcd u l < 2147483648 by omega)).mp e
      omega
    refine pp_ro hA hC hR (v := 0) [(nI u / nI (Nat.gcd u l)).toInt64, (nI l / nI (Nat.gcd u l)).toInt64] (Nat.le_of_ble_eq_true rfl) (fun Q hQ => ?_) (fun M1 L1 hR1 Q hQ => ?_)
    · refine cl Q (rn_X5_part_0_24 ⟨fun _ => ⟨fun e => absurd e hz2, fun _ => ?_⟩, fun e => absurd hlt e⟩)
      exact cl_i (fun _ h => ct_commonDivisor (by omega) (by omega) (by omega) h) (rg_X5_part_0_95 (cl_v (ct_clear ⟨rfl, rn_X5_part_0_104 ⟨hg3, cl_v (ct_tell (l := []) (Nat.le_of_ble_eq_true rfl) ⟨rfl, rn_X5_part_0_116 ⟨hg3, cl_v (ct_tell (l := [_]) (Nat.le_of_ble_eq_true rfl) ⟨rfl, rg_X5_part_0_129 hQ⟩)⟩⟩)⟩⟩)))
    · refine rl M1 L1 hR1 Q (fun M2 f => rn_X6_part_101_33 ⟨fun _ => ⟨fun e => absurd e hz2, fun _ => ?_⟩, fun e => absurd hlt e⟩)
      exact cl_i (fun _ h => ct_common (by omega) (by omega) h) (rn_X6_part_101_98 ⟨hg3, cl_v (ct_rtell (l := []) (Nat.le_of_ble_eq_true rfl) ⟨rfl, rn_X6_part_101_114 ⟨hg3, cl_v (ct_rtell (l := [_]) (Nat.le_of_ble_eq_true rfl) ⟨rfl, rg_X6_part_101_124 (hQ M2 f)⟩)⟩⟩)⟩)
theorem ct_numberOf_s {s : jS} (hS : jh M 5 s) (hn : jn s ≤ 20) {k w : Nat} (hk : k < jn s) (hw : w < 5) (hQ : Q (some (some (.int (jm_of (jsp s) k w)))) (jm_s M L G)) : am_T X 28 0 [some (.ref 5), some (.int (nI k)), some (.int (nI w))] [] (jm_s M L G) (0, 0) Q := by
  refine ct_numberOf_5 (by omega) ?_
  rw [jg_of hS.2.1 hk hw]
  exact hQ
theorem ct_coversBy {s : jS} (hS : jh M 5 s) (hn : jn s ≤ 20) {x y : Int32} (hQ : Q (some (some (.int (jb (jm_cb (jsp s) x y (jn s) 0))))) (jm_s M L G)) : am_T X 30 0 [some (.ref 5), some (.int x), some (.int y), none] [] (jm_s M L G) (0, 0) Q := by
  refine rg_X3_coversBy_5_0 ?_
  have h : ∀ n k, k + n = jn s → Q (some (some (.int (jb (jm_cb (jsp s) x y n k))))) (jm_s M L G) → am_T X 30 2 [some (.ref 5), some (.int x), some (.int y), some (.int (nI k))] [] (jm_s M L G) (0, 0) Q := by
    intro n
    induction n with
    | zero =>
      intro k e hq
      have e2 : k = jn s := e
      refine rn_X3_coversBy_5_2 ⟨fun _ => hq, fun h => absurd ?_ h⟩
      rw [hS.1, e2]
      exact nI_le (Nat.le_refl _) (by omega)
    | succ n ih =>
      intro k e hq
      have hk : k < jn s := by omega
      unfold jm_cb at hq
      refine rn_X3_coversBy_5_2 ⟨fun h => absurd h ?_, fun _ => cl_i (fun _ h => ct_numberOf_s hS hn (w := 0) hk (by decide) h) (rn_X3_coversBy_5_16 ?_)⟩
      · rw [hS.1]
        exact nI_ge hk (by omega)
      rw [nI_1]
      refine ⟨fun h1 => cl_i (fun _ h => ct_numberOf_s hS hn (w := 2) hk (by decide) h) (rn_X3_coversBy_5_26 ?_), fun h1 => ?_⟩
      · rw [nI_1]
        refine ⟨fun h2 => ?_, fun h2 => cl_i (fun _ h => ct_numberOf_s hS hn (w := 3) hk (by decide) h) (rn_X3_coversBy_5_37 ?_)⟩
        · rw [if_neg (fun e => Int32.not_lt.mpr e.2.1 h2)] at hq
          exact ih (k + 1) (by omega) hq
        · rw [nI_1]
          refine ⟨fun h3 => ?_, fun h3 => ?_⟩
          · rw [if_neg (fun e => Int32.not_lt.mpr e.2.2 h3)] at hq
            exact ih (k + 1) (by omega) hq
          · rw [if_pos ⟨h1, Int32.not_lt.mp h2, Int32.not_lt.mp h3⟩] at hq
            exact hq
      · rw [if_neg (fun e => h1 e.1)] at hq
        exact ih (k + 1) (by omega) hq
  exact h (jn s) 0 (Nat.zero_add _) hQ
theorem ct_covers {s : jS} (hR : jR (M 102) s) (hn : jn s ≤ 44) {x y : Int32} (hQ : Q (some (some (.int (jb (jm_cb (jsp s) x y (jn s) 0))))) (jm_s M L G)) : am_T X 177 0 [some (.ref 101), some (.int x), some (.int y), none] [] (jm_s M L G) (0, 0) Q := by
  refine rg_X6_covers_101_0 ?_
  have h : ∀ n k, k + n = jn s → Q (some (some (.int (jb (jm_cb (jsp s) x y n k))))) (jm_s M L G) → am_T X 177 2 [some (.ref 101), some (.int x), some (.int y), some (.int (nI k))] [] (jm_s M L G) (0, 0) Q := by
    intro n
    induction n with
    | zero =>
      intro k e hq
      have e2 : k = jn s := e
      refine rn_X6_covers_101_2 ⟨fun _ => hq, fun h => absurd ?_ h⟩
      rw [hR.1, e2]
      exact nI_le (Nat.le_refl _) (by omega)
    | succ n ih =>
      intro k e hq
      have hk : k < jn s := by omega
      unfold jm_cb at hq
      refine rn_X6_covers_101_2 ⟨fun h => absurd h ?_, fun _ => cl_i (fun _ h => ct_of_s hR hn (w := 0) hk (by decide) h) (rn_X6_covers_101_18 ?_)⟩
      · rw [hR.1]
        exact nI_ge hk (by omega)
      rw [nI_1]
      refine ⟨fun h1 => cl_i (fun _ h => ct_of_s hR hn (w := 2) hk (by decide) h) (rg_X6_covers_101_29 (cl_i (fun _ h => ct_of_s hR hn (w := 3) hk (by decide) h) (rg_X6_covers_101_35 (cl_i (fun _ h => ct_in h) (rn_X6_covers_101_38 ?_))))), fun h1 => ?_⟩
      · rw [nI_1]
        by_cases h2 : jm_of (jsp s) k 2 ≤ y ∧ y ≤ jm_of (jsp s) k 3
        · rw [jb_y (decide_eq_true h2)]
          rw [if_pos ⟨h1, h2⟩] at hq
          exact ⟨fun e => absurd e (by decide), fun _ => hq⟩
        · rw [jb_n (decide_eq_false h2)]
          rw [if_neg (fun e => h2 e.2)] at hq
          exact ⟨fun _ => ih (k + 1) (by omega) hq, fun e => absurd rfl e⟩
      · rw [if_neg (fun e => h1 e.1)] at hq
        exact ih (k + 1) (by omega) hq
  exact h (jn s) 0 (Nat.zero_add _) hQ
theorem pp_both (hA : jAw a) (hC : jC M L G a) (hR : jRR M L a) (x y : Int32) : jpp X (jm_s M L G) 71 [some (.ref 0), some (.int x), some (.int y), none, none] 178 [some (.ref 101), some (.int x), some (.int y), none, none] := by
  have hw := jw_44 hA.1
  rcases jx_case 5 (by decide) x with h | ⟨c, hc, rfl⟩
  · refine pp_rd hA hC hR (v := -1) (fun Q hQ => rg_X5_both_0_0 (cl_i (fun _ h' => ct_isCountry_n h h') (rn_X5_both_0_4 ⟨fun _ => hQ, fun e => absurd rfl e⟩))) (fun Q hQ => rg_X6_both_101_0 (cl_i (fun _ h' => ct_risCountry h') ?_))
    rw [rc_n h]
    exact rn_X6_both_101_9 ⟨fun _ => hQ _ (jfr_0 M 0), fun e => absurd rfl e⟩
  rcases jx_case 5 (by decide) y with h | ⟨d, hd, rfl⟩
  · refine pp_rd hA hC hR (v := -1) (fun Q hQ => rg_X5_both_0_0 (cl_i (fun _ h' => ct_isCountry_y hc h') (rn_X5_both_0_4 ⟨fun e => absurd e (by decide), fun _ => cl_i (fun _ h' => ct_isCountry_n h h') (rn_X5_both_0_11 ⟨fun _ => hQ, fun e => absurd rfl e⟩)⟩))) (fun Q hQ => rg_X6_both_101_0 (cl_i (fun _ h' => ct_risCountry h') ?_))
    rw [rc_y hc]
    refine rn_X6_both_101_9 ⟨fun e => absurd e (by decide), fun _ => cl_i (fun _ h' => ct_risCountry h') ?_⟩
    rw [rc_n h]
    exact rn_X6_both_101_16 ⟨fun _ => hQ _ (jfr_0 M 0), fun e => absurd rfl e⟩
  have cl : ∀ Q : am_Q, ((nI c = nI d → Q (some (some (.int (-1)))) (jm_s M L G)) ∧ (¬ nI c = nI d → am_T X 71 26 [some (.ref 0), some (.int (nI c)), some (.int (nI d)), some (.int 0), some (.int 0)] [] (jm_s M L G) (0, 0) Q)) → am_T X 71 0 [some (.ref 0), some (.int (nI c)), some (.int (nI d)), none, none] [] (jm_s M L G) (0, 0) Q := fun Q hQ => rg_X5_both_0_0 (cl_i (fun _ h' => ct_isCountry_y hc h') (rn_X5_both_0_4 ⟨fun e => absurd e (by decide), fun _ => cl_i (fun _ h' => ct_isCountry_y hd h') (rn_X5_both_0_11 ⟨fun e => absurd e (by decide), fun _ => hQ⟩)⟩))
  have rl : ∀ Q : am_Q, ((nI c = nI d → Q (some (some (.int (-1)))) (jm_s (wi_m M 101 5 0) L G)) ∧ (¬ nI c = nI d → am_T X 178 31 [some (.ref 101), some (.int (nI c)), some (.int (nI d)), some (.int 0), some (.int 0)] [] (jm_s (wi_m M 101 5 0) L G) (0, 0) Q)) → am_T X 178 0 [some (.ref 101), some (.int (nI c)), some (.int (nI d)), none, none] [] (jm_s M L G) (0, 0) Q := by
    intro Q hQ
    refine rg_X6_both_101_0 (cl_i (fun _ h' => ct_risCountry h') ?_)
    rw [rc_y hc]
    refine rn_X6_both_101_9 ⟨fun e => absurd e (by decide), fun _ => cl_i (fun _ h' => ct_risCountry h') ?_⟩
    rw [rc_y hd]
    exact rn_X6_both_101_16 ⟨fun e => absurd e (by decide), fun _ => hQ⟩
  by_cases hcd : nI c = nI d
  · exact pp_rd hA hC hR (v := -1) (fun Q hQ => cl Q ⟨fun _ => hQ, fun e => absurd hcd e⟩) (fun Q hQ => rl Q ⟨fun _ => hQ _ (jfr_0 M 0), fun e => absurd hcd e⟩)
  · have hS := hC.1.1.1
    have hn := hA.1.1
    refine pp_rd hA hC hR (v := jm_sm (fun m => if jm_cb (jsp (ja_s a)) (nI c) (nI m) (jn (ja_s a)) 0 = true then (if jm_cb (jsp (ja_s a)) (nI d) (nI m) (jn (ja_s a)) 0 = true then 1 else 0) else 0) 360) (fun Q hQ => cl Q ⟨fun e => absurd e hcd, fun _ => ?_⟩) (fun Q hQ => rl Q ⟨fun e => absurd e hcd, fun _ => ?_⟩)
    · refine lp_dn (P := fun k => am_T X 71 26 [some (.ref 0), some (.int (nI c)), some (.int (nI d)), some (.int (jm_sm (fun m => if jm_cb (jsp (ja_s a)) (nI c) (nI m) (jn (ja_s a)) 0 = true then (if jm_cb (jsp (ja_s a)) (nI d) (nI m) (jn (ja_s a)) 0 = true then 1 else 0) else 0) k)), some (.int (nI k))] [] (jm_s M L G) (0, 0) Q) 360 ?_ ?_ 0 (by decide)
      · exact rn_X5_both_0_26 ⟨fun _ => hQ, fun h => absurd jm_3e h⟩
      · intro k hk ih
        rw [jm_sm_s] at ih
        refine rn_X5_both_0_26 ⟨fun h => absurd h (jm_3 hk), fun _ => cl_i (fun _ h => ct_coversBy hS hn h) (rn_X5_both_0_44 ?_)⟩
        rw [nI_1]
        by_cases h1 : jm_cb (jsp (ja_s a)) (nI c) (nI k) (jn (ja_s a)) 0 = true
        · rw [if_pos h1] at ih
          rw [jb_y h1]
          refine ⟨fun e => absurd e (by decide), fun _ => cl_i (fun _ h => ct_coversBy hS hn h) (rn_X5_both_0_57 ?_)⟩
          rw [nI_1]
          by_cases h2 : jm_cb (jsp (ja_s a)) (nI d) (nI k) (jn (ja_s a)) 0 = true
          · rw [if_pos h2] at ih
            rw [jb_y h2]
            exact ⟨fun e => absurd e (by decide), fun _ => ih⟩
          · rw [if_neg h2, Int32.add_zero] at ih
            rw [jb_n (Bool.eq_false_iff.mpr h2)]
            exact ⟨fun _ => ih, fun e => absurd rfl e⟩
        · rw [if_neg h1, Int32.add_zero] at ih
          rw [jb_n (Bool.eq_false_iff.mpr h1)]
          exact ⟨fun _ => ih, fun e => absurd rfl e⟩
    · have hQ := hQ _ (jfr_0 M 0)
      have hR2 : jR ((wi_m M 101 5 0) 102) (ja_s a) := hR.1.1
      refine lp_dn (P := fun k => am_T X 178 31 [some (.ref 101), some (.int (nI c)), some (.int (nI d)), some (.int (jm_sm (fun m => if jm_cb (jsp (ja_s a)) (nI c) (nI m) (jn (ja_s a)) 0 = true then (if jm_cb (jsp (ja_s a)) (nI d) (nI m) (jn (ja_s a)) 0 = true then 1 else 0) else 0) k)), some (.int (nI k))] [] (jm_s (wi_m M 101 5 0) L G) (0, 0) Q) 360 ?_ ?_ 0 (by decide)
      · exact rn_X6_both_101_31 ⟨fun _ => hQ, fun h => absurd jm_3e h⟩
      · intro k hk ih
        rw [jm_sm_s] at ih
        refine rn_X6_both_101_31 ⟨fun h => absurd h (jm_3 hk), fun _ => cl_i (fun _ h => ct_covers hR2 hw.1 h) (rn_X6_both_101_47 ?_)⟩
        rw [nI_1]
        by_cases h1 : jm_cb (jsp (ja_s a)) (nI c) (nI k) (jn (ja_s a)) 0 = true
        · rw [if_pos h1] at ih
          rw [jb_y h1]
          refine ⟨fun e => absurd e (by decide), fun _ => cl_i (fun _ h => ct_covers hR2 hw.1 h) (rn_X6_both_101_57 ?_)⟩
          rw [nI_1]
          by_cases h2 : jm_cb (jsp (ja_s a)) (nI d) (nI k) (jn (ja_s a)) 0 = true
          · rw [if_pos h2] at ih
            rw [jb_y h2]
            exact ⟨fun e => absurd e (by decide), fun _ => ih⟩
          · rw [if_neg h2] at ih
            rw [jb_n (Bool.eq_false_iff.mpr h2)]
            exact ⟨fun _ => ih, fun e => absurd rfl e⟩
        · rw [if_neg h1] at ih
          rw [jb_n (Bool.eq_false_iff.mpr h1)]
          exact ⟨fun _ => ih, fun e => absurd rfl e⟩
end PP4
