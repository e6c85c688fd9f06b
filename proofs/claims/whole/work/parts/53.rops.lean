/-! ===== the reference: changes (written by wip/gen/gen_rops.py) ===== -/
theorem rp_X6_change_101_2s {X : Nat × (Nat → Int32)} {M : Nat → Nat → Int32} {L : Nat → Nat → Int64} {G : Nat → Nat → Option Nat} {Q : am_Q} {k : Nat} (hk : k < 277) (h : am_T X 204 2 [some (.ref 101), some (.int (nI (k + 1)))] [] (jm_s (wi_m M 120 k (M 102 k)) L G) (0, 0) Q) : am_T X 204 2 [some (.ref 101), some (.int (nI k))] [] (jm_s M L G) (0, 0) Q := rg_X6_change_101_2 (by
  rw [nI_clamp (show k < 2147483648 by omega), nI_1 k]
  exact ⟨fun e => absurd e (nI_ge hk (by decide)), fun _ => ⟨(vp_in_nI hk (by decide)), ⟨(vp_in_nI hk (by decide)), h⟩⟩⟩)
theorem rp_X6_change_101_2e {X : Nat × (Nat → Int32)} {M : Nat → Nat → Int32} {L : Nat → Nat → Int64} {G : Nat → Nat → Option Nat} {Q : am_Q}  (h : ∃ K : am_S → Prop, am_T X 205 0 [some (.ref 101), none] [] (jm_s M L G) (0, 0) (am_qv K) ∧ ∀ σ', K σ' → am_T X 204 31 [none, none] [] σ' (0, 0) Q) : am_T X 204 2 [some (.ref 101), some (.int (nI 277))] [] (jm_s M L G) (0, 0) Q := rg_X6_change_101_2 (by
  rw [nI_clamp (show 277 < 2147483648 by omega), nI_1 277]
  exact ⟨fun _ => h, fun e => absurd (nI_le (Nat.le_refl 277) (by decide)) e⟩)
theorem rp_X6_comesBack_101_2s {X : Nat × (Nat → Int32)} {M : Nat → Nat → Int32} {L : Nat → Nat → Int64} {G : Nat → Nat → Option Nat} {Q : am_Q} {k : Nat} (hk : k < 277) (h : am_T X 185 2 [some (.ref 101), some (.int (nI (k + 1)))] [] (jm_s (wi_m M 102 k (M 113 k)) L G) (0, 0) Q) : am_T X 185 2 [some (.ref 101), some (.int (nI k))] [] (jm_s M L G) (0, 0) Q := rg_X6_comesBack_101_2 (by
  rw [nI_clamp (show k < 2147483648 by omega), nI_1 k]
  exact ⟨fun e => absurd e (nI_ge hk (by decide)), fun _ => ⟨(vp_in_nI hk (by decide)), ⟨(vp_in_nI hk (by decide)), h⟩⟩⟩)
theorem rp_X6_comesBack_101_2e {X : Nat × (Nat → Int32)} {M : Nat → Nat → Int32} {L : Nat → Nat → Int64} {G : Nat → Nat → Option Nat} {Q : am_Q}  (h : Q (some none) (jm_s M L G)) : am_T X 185 2 [some (.ref 101), some (.int (nI 277))] [] (jm_s M L G) (0, 0) Q := rg_X6_comesBack_101_2 (by
  rw [nI_clamp (show 277 < 2147483648 by omega), nI_1 277]
  exact ⟨fun _ => h, fun e => absurd (nI_le (Nat.le_refl 277) (by decide)) e⟩)
theorem rp_X6_layAside_101_2s {X : Nat × (Nat → Int32)} {M : Nat → Nat → Int32} {L : Nat → Nat → Int64} {G : Nat → Nat → Option Nat} {Q : am_Q} {k : Nat} (hk : k < 277) (h : am_T X 184 2 [some (.ref 101), some (.int (nI (k + 1)))] [] (jm_s (wi_m M 113 k (M 102 k)) L G) (0, 0) Q) : am_T X 184 2 [some (.ref 101), some (.int (nI k))] [] (jm_s M L G) (0, 0) Q := rg_X6_layAside_101_2 (by
  rw [nI_clamp (show k < 2147483648 by omega), nI_1 k]
  exact ⟨fun e => absurd e (nI_ge hk (by decide)), fun _ => ⟨(vp_in_nI hk (by decide)), ⟨(vp_in_nI hk (by decide)), h⟩⟩⟩)
theorem rp_X6_layAside_101_2e {X : Nat × (Nat → Int32)} {M : Nat → Nat → Int32} {L : Nat → Nat → Int64} {G : Nat → Nat → Option Nat} {Q : am_Q}  (h : ∃ K : Int32 → am_S → Prop, am_T X 168 0 [some (.ref 101), none, none] [] (jm_s M L G) (0, 0) (am_qi K) ∧ ∀ v σ', K v σ' → am_T X 184 32 [some (.ref 101), none] [(.int v), (.ref 101)] σ' (0, 0) Q) : am_T X 184 2 [some (.ref 101), some (.int (nI 277))] [] (jm_s M L G) (0, 0) Q := rg_X6_layAside_101_2 (by
  rw [nI_clamp (show 277 < 2147483648 by omega), nI_1 277]
  exact ⟨fun _ => h, fun e => absurd (nI_le (Nat.le_refl 277) (by decide)) e⟩)
theorem rp_X6_layAside_101_37s {X : Nat × (Nat → Int32)} {M : Nat → Nat → Int32} {L : Nat → Nat → Int64} {G : Nat → Nat → Option Nat} {Q : am_Q} {k : Nat} (hk : k < 360) (h : am_T X 184 37 [some (.ref 101), some (.int (nI (k + 1)))] [] (jm_s (wi_m (wi_m (wi_m M 114 k (M 107 k)) 115 k (M 108 k)) 116 k (M 106 k)) L G) (0, 0) Q) : am_T X 184 37 [some (.ref 101), some (.int (nI k))] [] (jm_s M L G) (0, 0) Q := rg_X6_layAside_101_37 (by
  rw [nI_clamp (show k < 2147483648 by omega), nI_1 k]
  exact ⟨fun e => absurd e (nI_ge hk (by decide)), fun _ => ⟨(vp_in_nI hk (by decide)), ⟨(vp_in_nI hk (by decide)), ⟨(vp_in_nI hk (by decide)), ⟨(vp_in_nI hk (by decide)), ⟨(vp_in_nI hk (by decide)), ⟨(vp_in_nI hk (by decide)), h⟩⟩⟩⟩⟩⟩⟩)
theorem rp_X6_layAside_101_37e {X : Nat × (Nat → Int32)} {M : Nat → Nat → Int32} {L : Nat → Nat → Int64} {G : Nat → Nat → Option Nat} {Q : am_Q}  (h : Q (some none) (jm_s M L G)) : am_T X 184 37 [some (.ref 101), some (.int (nI 360))] [] (jm_s M L G) (0, 0) Q := rg_X6_layAside_101_37 (by
  rw [nI_clamp (show 360 < 2147483648 by omega), nI_1 360]
  exact ⟨fun _ => h, fun e => absurd (nI_le (Nat.le_refl 360) (by decide)) e⟩)
section ROps
variable {X : Nat × (Nat → Int32)} {M : Nat → Nat → Int32} {L : Nat → Nat → Int64} {G : Nat → Nat → Option Nat} {Q : am_Q} {s : jS}
theorem ct_put (hR : jR (M 102) s) (hn : jn s < 44) {x1 x2 x3 x4 x5 : Int32} (hQ : ∀ M', (∀ q, q ≠ 102 → M' q = M q) → jR (M' 102) (js_put s x1 x2 x3 x4 x5) → Q (some none) (jm_s M' L G)) : am_T X 187 0 [some (.ref 101), some (.int x1), some (.int x2), some (.int x3), some (.int x4), some (.int x5), none] [] (jm_s M L G) (0, 0) Q := by
  have e5 : (1 : Int32) + 5 * nI (jn s) = nI (1 + 5 * jn s) := by
    rw [show (5 : Int32) * nI (jn s) = nI (5 * jn s) from pk_mul 5 (jn s)]
    exact nI_add 1 _
  have e : ∀ w, nI (1 + 5 * jn s) + nI w = nI (1 + 5 * jn s + w) := fun w => nI_add _ _
  refine rn_X6_put_101_0 ?_
  rw [hR.1, e5, show nI (1 + 5 * jn s) + 1 = nI (1 + 5 * jn s + 1) from e 1, show nI (1 + 5 * jn s) + 2 = nI (1 + 5 * jn s + 2) from e 2, show nI (1 + 5 * jn s) + 3 = nI (1 + 5 * jn s + 3) from e 3, show nI (1 + 5 * jn s) + 4 = nI (1 + 5 * jn s + 4) from e 4, nI_clamp (show 1 + 5 * jn s < 2147483648 by omega), nI_clamp (show 1 + 5 * jn s + 1 < 2147483648 by omega), nI_clamp (show 1 + 5 * jn s + 2 < 2147483648 by omega), nI_clamp (show 1 + 5 * jn s + 3 < 2147483648 by omega), nI_clamp (show 1 + 5 * jn s + 4 < 2147483648 by omega)]
  refine ⟨vp_in_nI (by omega) (by decide), vp_in_nI (by omega) (by decide), vp_in_nI (by omega) (by decide), vp_in_nI (by omega) (by decide), vp_in_nI (by omega) (by decide), hQ _ (fun q hq => ?_) ?_⟩
  · rw [wi_m_p _ _ hq, wi_m_p _ _ hq, wi_m_p _ _ hq, wi_m_p _ _ hq, wi_m_p _ _ hq, wi_m_p _ _ hq]
  · have e0 : (wi_m (wi_m (wi_m (wi_m (wi_m M 102 (1 + 5 * jn s) x1) 102 (1 + 5 * jn s + 1) x2) 102 (1 + 5 * jn s + 2) x3) 102 (1 + 5 * jn s + 3) x4) 102 (1 + 5 * jn s + 4) x5) 102 0 = nI (jn s) := by
      rw [← hR.1]
      simp only [wi_m_eq]
      rw [if_pos trivial, if_neg (by omega), if_pos trivial, if_neg (by omega), if_pos trivial, if_neg (by omega), if_pos trivial, if_neg (by omega), if_pos trivial, if_neg (by omega)]
    rw [e0, nI_1]
    obtain ⟨h1, h2, h3, h4, h5, h6, h7⟩ := hR
    refine ⟨wi_m_i _ _ _ _, fun i hi => ?_, fun i hi => ?_, fun i hi => ?_, ?_, ?_, fun i hi => ?_⟩
    · have hi2 : i < 5 * (jn s + 1) := hi
      show _ = (if i = 5 * jn s + 4 then x5 else if i = 5 * jn s + 3 then x4 else if i = 5 * jn s + 2 then x3 else if i = 5 * jn s + 1 then x2 else if i = 5 * jn s + 0 then x1 else jsp s i)
      have := h2 i
      simp only [wi_m_eq]
      grind
    · have := h3 i hi
      have hj : jlw (js_put s x1 x2 x3 x4 x5) i = jlw s i := rfl
      rw [hj]
      simp only [wi_m_eq]
      grind
    · have := h4 i hi
      have hj : jod (js_put s x1 x2 x3 x4 x5) i = jod s i := rfl
      rw [hj]
      simp only [wi_m_eq]
      grind
    · have hj : jcr (js_put s x1 x2 x3 x4 x5) = jcr s := rfl
      rw [hj]
      simp only [wi_m_eq]
      grind
    · have hj : jle (js_put s x1 x2 x3 x4 x5) = jle s := rfl
      rw [hj]
      simp only [wi_m_eq]
      grind
    · have := h7 i hi
      have hj : jix (js_put s x1 x2 x3 x4 x5) i = jix s i := rfl
      rw [hj]
      simp only [wi_m_eq]
      grind
theorem ct_rdrop (hR : jR (M 102) s) (hn : jn s ≤ 44) {k : Nat} (hk : k < jn s) (hQ : ∀ M', (∀ q, q ≠ 102 → M' q = M q) → jR (M' 102) (js_drop s k) → Q (some none) (jm_s M' L G)) : am_T X 188 0 [some (.ref 101), some (.int (nI k)), none] [] (jm_s M L G) (0, 0) Q := by
  refine rn_X6_drop_101_0 ?_
  have ek : (1 : Int32) + 5 * nI k = nI (1 + 5 * k) := by
    rw [show (5 : Int32) * nI k = nI (5 * k) from pk_mul 5 k]
    exact nI_add 1 _
  have en : nI (jn s) - 1 = nI (jn s - 1) := pk_sub (b := 1) (by omega)
  have e5 : (1 : Int32) + 5 * nI (jn s - 1) = nI (1 + 5 * (jn s - 1)) := by
    rw [show (5 : Int32) * nI (jn s - 1) = nI (5 * (jn s - 1)) from pk_mul 5 (jn s - 1)]
    exact nI_add 1 _
  rw [hR.1, en, ek]
  have l2 : ∀ j, j ≤ 5 → ∀ M1, (∀ q, q ≠ 102 → M1 q = M q) → (∀ i, M1 102 i = if i = 0 then nI (jn s - 1) else if 1 + 5 * (jn s - 1) ≤ i ∧ i < 1 + 5 * (jn s - 1) + j then 0 else if 1 + 5 * k ≤ i ∧ i < 1 + 5 * (jn s - 1) then M 102 (i + 5) else M 102 i) → am_T X 188 52 [some (.ref 101), none, some (.int (nI j))] [] (jm_s M1 L G) (0, 0) Q := by
    refine lp_dn 5 ?_ ?_
    · intro M1 f1 f2
      refine rn_X6_drop_101_52 ⟨fun _ => hQ M1 f1 ?_, fun h => absurd (nI_le (Nat.le_refl 5) (by decide)) h⟩
      obtain ⟨h1, h2, h3, h4, h5, h6, h7⟩ := hR
      refine ⟨?_, fun i hi => ?_, fun i hi => ?_, fun i hi => ?_, ?_, ?_, fun i hi => ?_⟩
      · rw [f2 0, if_pos rfl]
        rfl
      · have hi2 : i < 5 * (jn s - 1) := hi
        show _ = (if 5 * k ≤ i then jsp s (i + 5) else jsp s i)
        rw [f2 (1 + i), if_neg (by omega), if_neg (by omega)]
        by_cases hki : 5 * k ≤ i
        · rw [if_pos ⟨by omega, by omega⟩, if_pos hki, ← h2 (i + 5) (by omega)]
          exact congrArg (M 102) (by omega)
        · rw [if_neg (by omega), if_neg hki, ← h2 i (by omega)]
      · rw [f2 (221 + i), if_neg (by omega), if_neg (by omega), if_neg (by omega)]
        exact h3 i hi
      · rw [f2 (241 + i), if_neg (by omega), if_neg (by omega), if_neg (by omega)]
        exact h4 i hi
      · rw [f2 245, if_neg (by omega), if_neg (by omega), if_neg (by omega)]
        exact h5
      · rw [f2 246, if_neg (by omega), if_neg (by omega), if_neg (by omega)]
        exact h6
      · rw [f2 (247 + i), if_neg (by omega), if_neg (by omega), if_neg (by omega)]
        exact h7 i hi
    · intro j hj ih M1 f1 f2
      have e0 : M1 102 0 = nI (jn s - 1) := by rw [f2 0, if_pos rfl]
      refine rn_X6_drop_101_52 ⟨fun h => absurd h (nI_ge hj (by decide)), fun _ => ?_⟩
      rw [e0, e5, nI_add, nI_clamp (show 1 + 5 * (jn s - 1) + j < 2147483648 by omega), nI_1]
      refine ⟨vp_in_nI (by omega) (by decide), ih _ (fun q hq => by rw [wi_m_p _ _ hq, f1 q hq]) (fun i => ?_)⟩
      rw [wi_m_eq, if_pos rfl, f2 i]
      by_cases e : i = 1 + 5 * (jn s - 1) + j
      · rw [if_pos e, if_neg (by omega), if_pos (by omega)]
      · rw [if_neg e]
        by_cases e1 : i = 0
        · rw [if_pos e1, if_pos e1]
        · rw [if_neg e1, if_neg e1]
          by_cases e2 : 1 + 5 * (jn s - 1) ≤ i ∧ i < 1 + 5 * (jn s - 1) + j
          · rw [if_pos e2, if_pos (by omega)]
          · rw [if_neg e2, if_neg (show ¬ (1 + 5 * (jn s - 1) ≤ i ∧ i < 1 + 5 * (jn s - 1) + (j + 1)) by omega)]
  have l1 : ∀ x, x ≤ 1 + 5 * (jn s - 1) → 1 + 5 * k ≤ x → ∀ M1, (∀ q, q ≠ 102 → M1 q = M q) → (∀ i, M1 102 i = if i = 0 then nI (jn s - 1) else if 1 + 5 * k ≤ i ∧ i < x then M 102 (i + 5) else M 102 i) → am_T X 188 16 [some (.ref 101), none, some (.int (nI x))] [] (jm_s M1 L G) (0, 0) Q := by
    refine lp_dn (1 + 5 * (jn s - 1)) ?_ ?_
    · intro _ M1 f1 f2
      have e0 : M1 102 0 = nI (jn s - 1) := by rw [f2 0, if_pos rfl]
      refine rn_X6_drop_101_16 ?_
      rw [e0, e5]
      refine ⟨fun _ => l2 0 (by decide) M1 f1 (fun i => ?_), fun h => absurd (nI_le (Nat.le_refl _) (by omega)) h⟩
      rw [f2 i]
      by_cases e1 : i = 0
      · rw [if_pos e1, if_pos e1]
      · rw [if_neg e1, if_neg e1, if_neg (show ¬ (1 + 5 * (jn s - 1) ≤ i ∧ i < 1 + 5 * (jn s - 1) + 0) by omega)]
    · intro x hx ih hkx M1 f1 f2
      have e0 : M1 102 0 = nI (jn s - 1) := by rw [f2 0, if_pos rfl]
      refine rn_X6_drop_101_16 ?_
      rw [e0, e5, show nI x + 5 = nI (x + 5) from nI_add x 5, nI_clamp (show x + 5 < 2147483648 by omega), nI_clamp (show x < 2147483648 by omega), nI_1]
      refine ⟨fun h => absurd h (nI_ge hx (by omega)), fun _ => ⟨vp_in_nI (by omega) (by decide), vp_in_nI (by omega) (by decide), ih (by omega) _ (fun q hq => by rw [wi_m_p _ _ hq, f1 q hq]) (fun i => ?_)⟩⟩
      rw [wi_m_eq, if_pos rfl, f2 i, f2 (x + 5), if_neg (show ¬ x + 5 = 0 by omega), if_neg (show ¬ (1 + 5 * k ≤ x + 5 ∧ x + 5 < x) by omega)]
      by_cases e : i = x
      · subst e
        rw [if_pos rfl, if_neg (by omega), if_pos (by omega)]
      · rw [if_neg e]
        by_cases e1 : i = 0
        · rw [if_pos e1, if_pos e1]
        · rw [if_neg e1, if_neg e1]
          by_cases e2 : 1 + 5 * k ≤ i ∧ i < x
          · rw [if_pos e2, if_pos (by omega)]
          · rw [if_neg e2, if_neg (by omega)]
  refine l1 (1 + 5 * k) (by omega) (Nat.le_refl _) _ (fun q hq => wi_m_p _ _ hq) (fun i => ?_)
  rw [wi_m_eq, if_pos rfl]
  by_cases e1 : i = 0
  · rw [if_pos e1, if_pos e1]
  · rw [if_neg e1, if_neg e1, if_neg (by omega)]
theorem ct_canBe {x1 x2 x3 x4 x5 : Int32} (hQ : Q (some (some (.int (jb (jvB x1 x2 x3 x4 x5))))) (jm_s M L G)) : am_T X 131 0 [some (.int x1), some (.int x2), some (.int x3), some (.int x4), some (.int x5)] [] (jm_s M L G) (0, 0) Q := by
  have q0 : ¬ jv x1 x2 x3 x4 x5 → Q (some (some (.int 0))) (jm_s M L G) := by
    intro h
    rw [jb_n (Bool.eq_false_iff.mpr (fun e => h (jvB_iff.mp e)))] at hQ
    exact hQ
  refine rg_X6_canBe_0 (cl_i (fun _ h => ct_risCountry h) (rn_X6_canBe_4 ?_))
  by_cases h1 : 0 ≤ x1 ∧ x1 ≤ 4
  · rw [jb_y (decide_eq_true h1)]
    refine ⟨fun e => absurd e (by decide), fun _ => cl_i (fun _ h => ct_in h) (rn_X6_canBe_13 ?_)⟩
    by_cases h2 : 0 ≤ x2 ∧ x2 ≤ 3
    · rw [jb_y (decide_eq_true h2)]
      refine ⟨fun e => absurd e (by decide), fun _ => cl_i (fun _ h => ct_risMonth h) (rn_X6_canBe_20 ?_)⟩
      by_cases h3 : 0 ≤ x3 ∧ x3 ≤ 359
      · rw [jb_y (decide_eq_true h3)]
        refine ⟨fun e => absurd e (by decide), fun _ => cl_i (fun _ h => ct_in h) (rn_X6_canBe_31 ?_)⟩
        by_cases h4 : x3 ≤ x4 ∧ x4 ≤ 359
        · rw [jb_y (decide_eq_true h4)]
          refine ⟨fun e => absurd e (by decide), fun _ => cl_i (fun _ h => ct_in h) (rn_X6_canBe_43 ?_)⟩
          by_cases h5 : 1 ≤ x5 ∧ x5 ≤ 999
          · rw [jb_y (decide_eq_true h5)]
            rw [jb_y (jvB_iff.mpr ⟨h1, h2, h3, h4, h5⟩)] at hQ
            exact ⟨fun e => absurd e (by decide), fun _ => hQ⟩
          · rw [jb_n (decide_eq_false h5)]
            exact ⟨fun _ => q0 (fun e => h5 e.2.2.2.2), fun e => absurd rfl e⟩
        · rw [jb_n (decide_eq_false h4)]
          exact ⟨fun _ => q0 (fun e => h4 e.2.2.2.1), fun e => absurd rfl e⟩
      · rw [jb_n (decide_eq_false h3)]
        exact ⟨fun _ => q0 (fun e => h3 e.2.2.1), fun e => absurd rfl e⟩
    · rw [jb_n (decide_eq_false h2)]
      exact ⟨fun _ => q0 (fun e => h2 e.2.1), fun e => absurd rfl e⟩
  · rw [jb_n (decide_eq_false h1)]
    exact ⟨fun _ => q0 (fun e => h1 e.1), fun e => absurd rfl e⟩
/-- a row of 277 numbers copied -/
theorem ct_comesBack (hQ : ∀ M', (∀ q, q ≠ 102 → M' q = M q) → (∀ i, i < 277 → M' 102 i = M 113 i) → Q (some none) (jm_s M' L G)) : am_T X 185 0 [some (.ref 101), none] [] (jm_s M L G) (0, 0) Q := by
  refine rg_X6_comesBack_101_0 ?_
  refine lp_dn (P := fun k => ∀ M1, (∀ q, q ≠ 102 → M1 q = M q) → (∀ i, i < k → M1 102 i = M 113 i) → am_T X 185 2 [some (.ref 101), some (.int (nI k))] [] (jm_s M1 L G) (0, 0) Q) 277 ?_ ?_ 0 (by decide) M (fun _ _ => rfl) (fun i h => absurd h (Nat.not_lt_zero i))
  · intro M1 f1 f2
    exact rp_X6_comesBack_101_2e (hQ M1 f1 f2)
  · intro k hk ih M1 f1 f2
    refine rp_X6_comesBack_101_2s hk (ih _ (fun q hq => by rw [wi_m_p _ _ hq, f1 q hq]) (fun i hi => ?_))
    rw [wi_m_eq, if_pos rfl, f1 113 (by decide)]
    by_cases e : i = k
    · rw [if_pos e, e]
    · rw [if_neg e, f2 i (by omega)]
theorem ct_layAside (hR : jR (M 102) s) (hw : jw s 44) (hQ : ∀ M', (∀ q, q ≠ 101 → q < 106 ∨ 116 < q → M' q = M q) → (∀ i, i ≠ 15 → i ≠ 22 → M' 101 i = M 101 i) → M' 101 22 = jc_all s → jR (M' 113) s → (∀ m, m < 360 → M' 114 m = jc_ld s m ∧ M' 115 m = jc_wg s m ∧ M' 116 m = jc_so s m) → jL M' s → Q (some none) (jm_s M' L G)) : am_T X 184 0 [some (.ref 101), none] [] (jm_s M L G) (0, 0) Q := by
  refine rg_X6_layAside_101_0 ?_
  refine lp_dn (P := fun k => ∀ M1, (∀ q, q ≠ 113 → M1 q = M q) → (∀ i, i < k → M1 113 i = M 102 i) → am_T X 184 2 [some (.ref 101), some (.int (nI k))] [] (jm_s M1 L G) (0, 0) Q) 277 ?_ ?_ 0 (by decide) M (fun _ _ => rfl) (fun i h => absurd h (Nat.not_lt_zero i))
  · intro M1 f1 f2
    have hR1 : jR (M1 102) s := by rw [f1 102 (by decide)]; exact hR
    refine rp_X6_layAside_101_2e (cl_w (ct_allOf hR1 hw (fun M2 g1 g2 hL => ⟨_, rfl, rg_X6_layAside_101_32 ?_⟩)))
    refine lp_dn (P := fun k => ∀ M3, (∀ q, q ≠ 114 → q ≠ 115 → q ≠ 116 → M3 q = (wi_m M2 101 22 (jc_all s)) q) → (∀ m, m < k → M3 114 m = jc_ld s m ∧ M3 115 m = jc_wg s m ∧ M3 116 m = jc_so s m) → am_T X 184 37 [some (.ref 101), some (.int (nI k))] [] (jm_s M3 L G) (0, 0) Q) 360 ?_ ?_ 0 (by decide) _ (fun _ _ _ _ => rfl) (fun i h => absurd h (Nat.not_lt_zero i))
    · intro M3 e1 e2
      refine rp_X6_layAside_101_37e (hQ M3 ?_ ?_ ?_ ?_ e2 ?_)
      · intro q h1 h2
        rw [e1 q (by omega) (by omega) (by omega), wi_m_p _ _ h1, g1 q h1 (by omega), f1 q (by omega)]
      · intro i h1 h2
        rw [e1 101 (by decide) (by decide) (by decide), wi_m_eq, if_pos rfl, if_neg h2, g2 i h1, f1 101 (by decide)]
      · rw [e1 101 (by decide) (by decide) (by decide), wi_m_i]
      · have e3 : M3 113 = M1 113 := by
          rw [e1 113 (by decide) (by decide) (by decide), wi_m_p _ _ (by decide), g1 113 (by decide) (by decide)]
        exact jR_f hR (fun i hi => by rw [e3, f2 i hi]) hw.1
      · have hL2 := jL_w (v := jc_all s) hL (show 22 ≠ 15 by decide)
        unfold jL at *
        rw [e1 101 (by decide) (by decide) (by decide), e1 106 (by decide) (by decide) (by decide), e1 107 (by decide) (by decide) (by decide), e1 108 (by decide) (by decide) (by decide), e1 109 (by decide) (by decide) (by decide), e1 110 (by decide) (by decide) (by decide), e1 111 (by decide) (by decide) (by decide), e1 112 (by decide) (by decide) (by decide)]
        exact hL2
    · intro k hk ih M3 e1 e2
      have hLk := hL.1 k hk
      refine rp_X6_layAside_101_37s hk (ih _ (fun q h1 h2 h3 => ?_) (fun m hm => ?_))
      · rw [wi_m_p _ _ h3, wi_m_p _ _ h2, wi_m_p _ _ h1, e1 q h1 h2 h3]
      · have a6 : M3 106 k = jc_so s k := by rw [e1 106 (by decide) (by decide) (by decide), wi_m_p _ _ (by decide)]; exact hLk.1
        have a7 : M3 107 k = jc_ld s k := by rw [e1 107 (by decide) (by decide) (by decide), wi_m_p _ _ (by decide)]; exact hLk.2.1
        have a8 : M3 108 k = jc_wg s k := by rw [e1 108 (by decide) (by decide) (by decide), wi_m_p _ _ (by decide)]; exact hLk.2.2.1
        have := e2 m
        simp only [wi_m_eq]
        grind
  · intro k hk ih M1 f1 f2
    refine rp_X6_layAside_101_2s hk (ih _ (fun q hq => by rw [wi_m_p _ _ hq, f1 q hq]) (fun i hi => ?_))
    rw [wi_m_eq, if_pos rfl, f1 102 (by decide)]
    by_cases e : i = k
    · rw [if_pos e, e]
    · rw [if_neg e, f2 i (by omega)]
theorem ct_note {n : Nat} {pa : Nat → jS} (h1 : M 101 27 = nI n) (hn : n ≤ 8) (hp : ∀ j, j < n → jR (fun i => M 119 (277 * j + i)) (pa j)) (hpn : ∀ j, j < n → jn (pa j) ≤ 44) (hs : jR (M 120) s) (hsn : jn s ≤ 44) (hQ : ∀ M', (∀ q, q ≠ 101 → q ≠ 119 → M' q = M q) → (∀ i, i ≠ 27 → M' 101 i = M 101 i) → M' 101 27 = nI (jpush n pa s).1 → (∀ j, j < (jpush n pa s).1 → jR (fun i => M' 119 (277 * j + i)) ((jpush n pa s).2 j)) → Q (some none) (jm_s M' L G)) : am_T X 205 0 [some (.ref 101), none] [] (jm_s M L G) (0, 0) Q := by
  -- the last one is laid at m
  have l2 : ∀ M0 m, m < 8 → (∀ q, q ≠ 101 → q ≠ 119 → M0 q = M q) → (∀ i, i ≠ 27 → M0 101 i = M 101 i) → M0 101 27 = nI m → (∀ M', (∀ q, q ≠ 101 → q ≠ 119 → M' q = M q) → (∀ i, i ≠ 27 → M' 101 i = M 101 i) → M' 101 27 = nI (m + 1) → (∀ i, M' 119 i = if 277 * m ≤ i ∧ i < 277 * m + 277 then M 120 (i - 277 * m) else M0 119 i) → Q (some none) (jm_s M' L G)) → am_T X 205 52 [some (.ref 101), some (.int 0)] [] (jm_s M0 L G) (0, 0) Q := by
    intro M0 m hm z1 z2 z3 hq
    have em : (277 : Int32) * nI m = nI (277 * m) := pk_mul 277 m
    refine lp_dn (P := fun k => ∀ M1, (∀ q, q ≠ 119 → M1 q = M0 q) → (∀ i, M1 119 i = if 277 * m ≤ i ∧ i < 277 * m + k then M 120 (i - 277 * m) else M0 119 i) → am_T X 205 52 [some (.ref 101), some (.int (nI k))] [] (jm_s M1 L G) (0, 0) Q) 277 ?_ ?_ 0 (by decide) M0 (fun _ _ => rfl) (fun i => by rw [if_neg (by omega)])
    · intro M1 f1 f2
      refine rn_X6_note_101_52 ⟨fun _ => hq _ (fun q h1 h2 => ?_) (fun i hi => ?_) ?_ (fun i => ?_), fun h => absurd (nI_le (Nat.le_refl 277) (by decide)) h⟩
      · rw [wi_m_p _ _ h1, f1 q h2, z1 q h1 h2]
      · rw [wi_m_eq, if_pos rfl, if_neg hi, f1 101 (by decide), z2 i hi]
      · rw [wi_m_i, f1 101 (by decide), z3, nI_1]
      · rw [wi_m_p _ _ (show 119 ≠ 101 by decide), f2 i]
    · intro k hk ih M1 f1 f2
      refine rn_X6_note_101_52 ⟨fun h => absurd h (nI_ge hk (by decide)), fun _ => ?_⟩
      rw [f1 101 (by decide), z3, em, nI_add, nI_clamp (show 277 * m + k < 2147483648 by omega), nI_clamp (show k < 2147483648 by omega), nI_1, f1 120 (by decide), z1 120 (by decide) (by decide)]
      refine ⟨vp_in_nI hk (by decide), vp_in_nI (by omega) (by decide), ih _ (fun q hq => by rw [wi_m_p _ _ hq, f1 q hq]) (fun i => ?_)⟩
      rw [wi_m_eq, if_pos rfl, f2 i]
      by_cases e : i = 277 * m + k
      · rw [if_pos e, if_pos (by omega), show i - 277 * m = k by omega]
      · rw [if_neg e]
        by_cases e2 : 277 * m ≤ i ∧ i < 277 * m + k
        · rw [if_pos e2, if_pos (by omega)]
        · rw [if_neg e2, if_neg (by omega)]
  by_cases h8 : n < 8
  · have hne : ¬ nI n = 8 := jm_ne (b := 8) (by omega) (by decide) (by omega)
    refine rn_X6_note_101_0 ⟨fun h => absurd (h1.symm.trans h) hne, fun _ => l2 M n h8 (fun _ _ _ => rfl) (fun _ _ => rfl) h1 (fun M' f1 f2 f3 f4 => ?_)⟩
    unfold jpush at hQ
    rw [if_pos h8] at hQ
    refine hQ M' f1 f2 f3 (fun j hj => ?_)
    have hj2 : j < n + 1 := hj
    show jR _ (if j = n then s else pa j)
    by_cases e : j = n
    · rw [if_pos e]
      refine jR_f hs (fun i hi => ?_) hsn
      show M' 119 (277 * j + i) = M 120 i
      rw [f4, if_pos (by omega)]
      exact congrArg (M 120) (by omega)
    · rw [if_neg e]
      refine jR_f (hp j (by omega)) (fun i hi => ?_) (hpn j (by omega))
      show M' 119 (277 * j + i) = M 119 (277 * j + i)
      rw [f4, if_neg (by omega)]
  · have hn8 : n = 8 := by omega
    subst hn8
    refine rn_X6_note_101_0 ⟨fun _ => ?_, fun h => absurd h1 h⟩
    refine lp_dn (P := fun k => ∀ M1, (∀ q, q ≠ 119 → M1 q = M q) → (∀ i, M1 119 i = if i < k then M 119 (i + 277) else M 119 i) → am_T X 205 11 [some (.ref 101), some (.int (nI k))] [] (jm_s M1 L G) (0, 0) Q) 1939 ?_ ?_ 0 (by decide) M (fun _ _ => rfl) (fun i => by rw [if_neg (by omega)])
    · intro M1 f1 f2
      refine rn_X6_note_101_11 ⟨fun _ => l2 _ 7 (by decide) (fun q q1 q2 => ?_) (fun i hi => ?_) ?_ (fun M' g1 g2 g3 g4 => ?_), fun h => absurd (nI_le (Nat.le_refl 1939) (by decide)) h⟩
      · rw [wi_m_p _ _ q1, f1 q q2]
      · rw [wi_m_eq, if_pos rfl, if_neg hi, f1 101 (by decide)]
      · rw [wi_m_i, f1 101 (by decide), h1]
        rfl
      · unfold jpush at hQ
        rw [if_neg (by decide)] at hQ
        refine hQ M' g1 g2 g3 (fun j hj => ?_)
        have hj2 : j < 8 := hj
        show jR _ (if j = 7 then s else pa (j + 1))
        by_cases e : j = 7
        · rw [if_pos e]
          refine jR_f hs (fun i hi => ?_) hsn
          show M' 119 (277 * j + i) = M 120 i
          rw [g4, if_pos (by omega)]
          exact congrArg (M 120) (by omega)
        · rw [if_neg e]
          refine jR_f (hp (j + 1) (by omega)) (fun i hi => ?_) (hpn (j + 1) (by omega))
          show M' 119 (277 * j + i) = M 119 (277 * (j + 1) + i)
          rw [g4, if_neg (by omega), wi_m_p _ _ (show 119 ≠ 101 by decide), f2, if_pos (by omega)]
          exact congrArg (M 119) (by omega)
    · intro k hk ih M1 f1 f2
      refine rn_X6_note_101_11 ⟨fun h => absurd h (nI_ge hk (by decide)), fun _ => ?_⟩
      rw [show nI k + 277 = nI (k + 277) from nI_add k 277, nI_clamp (show k + 277 < 2147483648 by omega), nI_clamp (show k < 2147483648 by omega), nI_1]
      refine ⟨vp_in_nI (by omega) (by decide), vp_in_nI (by omega) (by decide), ih _ (fun q hq => by rw [wi_m_p _ _ hq, f1 q hq]) (fun i => ?_)⟩
      rw [wi_m_eq, if_pos rfl, f2 i, f2 (k + 277), if_neg (show ¬ k + 277 < k by omega)]
      by_cases e : i = k
      · subst e
        rw [if_pos rfl, if_pos (by omega)]
      · rw [if_neg e]
        by_cases e2 : i < k
        · rw [if_pos e2, if_pos (by omega)]
        · rw [if_neg e2, if_neg (by omega)]
theorem ct_change {n : Nat} {pa : Nat → jS} (h1 : M 101 27 = nI n) (hn : n ≤ 8) (hp : ∀ j, j < n → jR (fun i => M 119 (277 * j + i)) (pa j)) (hpn : ∀ j, j < n → jn (pa j) ≤ 44) (hs : jR (M 102) s) (hsn : jn s ≤ 44) (hQ : ∀ M', (∀ q, q ≠ 101 → q ≠ 119 → q ≠ 120 → M' q = M q) → (∀ i, i ≠ 27 → M' 101 i = M 101 i) → M' 101 27 = nI (jpush n pa s).1 → (∀ j, j < (jpush n pa s).1 → jR (fun i => M' 119 (277 * j + i)) ((jpush n pa s).2 j)) → Q (some none) (jm_s M' L G)) : am_T X 204 0 [some (.ref 101), none] [] (jm_s M L G) (0, 0) Q := by
  refine rg_X6_change_101_0 ?_
  refine lp_dn (P := fun k => ∀ M1, (∀ q, q ≠ 120 → M1 q = M q) → (∀ i, i < k → M1 120 i = M 102 i) → am_T X 204 2 [some (.ref 101), some (.int (nI k))] [] (jm_s M1 L G) (0, 0) Q) 277 ?_ ?_ 0 (by decide) M (fun _ _ => rfl) (fun i h => absurd h (Nat.not_lt_zero i))
  · intro M1 f1 f2
    have e9 : M1 119 = M 119 := f1 119 (by decide)
    refine rp_X6_change_101_2e (cl_v (ct_note (n := n) (pa := pa) (s := s) (by rw [f1 101 (by decide)]; exact h1) hn (fun j hj => by rw [e9]; exact hp j hj) hpn (jR_f hs (fun i hi => f2 i hi) hsn) hsn (fun M' g1 g2 g3 g4 => ⟨rfl, rg_X6_change_101_31 (hQ M' (fun q q1 q2 q3 => by rw [g1 q q1 q2, f1 q q3]) (fun i hi => by rw [g2 i hi, f1 101 (by decide)]) g3 g4)⟩)))
  · intro k hk ih M1 f1 f2
    refine rp_X6_change_101_2s hk (ih _ (fun q hq => by rw [wi_m_p _ _ hq, f1 q hq]) (fun i hi => ?_))
    rw [wi_m_eq, if_pos rfl, f1 102 (by decide)]
    by_cases e : i = k
    · rw [if_pos e, e]
    · rw [if_neg e, f2 i (by omega)]
end ROps
