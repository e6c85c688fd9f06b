/-! ===== what becomes of the class's trial (written by wip/gen/gen_trial.py) ===== -/
def jvB (x1 x2 x3 x4 x5 : Int32) : Bool := decide (0 ≤ x1 ∧ x1 ≤ 4) && (decide (0 ≤ x2 ∧ x2 ≤ 3) && (decide (0 ≤ x3 ∧ x3 ≤ 359) && (decide (x3 ≤ x4 ∧ x4 ≤ 359) && decide (1 ≤ x5 ∧ x5 ≤ 999))))
theorem jvB_iff {x1 x2 x3 x4 x5 : Int32} : jvB x1 x2 x3 x4 x5 = true ↔ jv x1 x2 x3 x4 x5 := by
  unfold jvB jv
  simp only [Bool.and_eq_true, decide_eq_true_eq]
def jo_bring (s : jS) (x1 x2 x3 x4 x5 : Int32) : Int32 × jS := if jvB x1 x2 x3 x4 x5 = true then (if 20 ≤ jn s then (-3, s) else (nI (jn s + 1), js_put s x1 x2 x3 x4 x5)) else (-1, s)
def jo_drop (s : jS) (x : Int32) : Int32 × jS := if 0 ≤ x ∧ x < nI (jn s) then (nI (jn s - 1), js_drop s x.toNatClampNeg) else (-1, s)
def jo_str (s : jS) (x f t : Int32) : Int32 × jS := if (0 ≤ x ∧ x < nI (jn s)) ∧ (0 ≤ f ∧ f ≤ t ∧ t ≤ 359) then (if jm_of (jsp s) x.toNatClampNeg 2 = f ∧ jm_of (jsp s) x.toNatClampNeg 3 = t then (-2, s) else (t - f + 1, js_str s x.toNatClampNeg f t)) else (-1, s)
def jm_ll (w : Int32) : Int32 := if w = 0 then 1 else 0
def jm_lm (w : Int32) : Int32 := if w = 0 then 240 else if w = 3 then 359 else 99
def jo_law (s : jS) (c w v : Int32) : Int32 × jS := if (0 ≤ c ∧ c ≤ 4) ∧ (0 ≤ w ∧ w ≤ 3) ∧ (jm_ll w ≤ v ∧ v ≤ jm_lm w) then (if jlw s (4 * c.toNatClampNeg + w.toNatClampNeg) = v then (-2, s) else (jlw s (4 * c.toNatClampNeg + w.toNatClampNeg), js_law s (4 * c.toNatClampNeg + w.toNatClampNeg) v)) else (-1, s)
def jo_ix (s : jS) (y v : Int32) : Int32 × jS := if (0 ≤ y ∧ y ≤ 29) ∧ (50 ≤ v ∧ v ≤ 400) then (if jix s y.toNatClampNeg = v then (-2, s) else (jix s y.toNatClampNeg, js_ix s y.toNatClampNeg v)) else (-1, s)
def jo_set (s : jS) (w v : Int32) : Int32 × jS := if w = 0 then (if 0 ≤ v ∧ v ≤ 24 then (if jcr s = v then (-2, s) else (jcr s, js_cr s v)) else (-1, s)) else if w = 1 then (if 0 ≤ v ∧ v ≤ 60 then (if jle s = v then (-2, s) else (jle s, js_le s v)) else (-1, s)) else (-1, s)
theorem jm_ka1 : ∀ k, k < 4 → am_ka 1001 k = jm_ll (nI k) ∧ am_ka 1002 k = jm_lm (nI k) := by decide +kernel
theorem jo_bring_w {x1 x2 x3 x4 x5 : Int32} {s : jS} (h : jw s 20) : jw (jo_bring s x1 x2 x3 x4 x5).2 20 := by
  unfold jo_bring
  by_cases hv : jvB x1 x2 x3 x4 x5 = true
  · rw [if_pos hv]
    by_cases hn : 20 ≤ jn s
    · rw [if_pos hn]; exact h
    · rw [if_neg hn]; exact jw_put h (by omega) (jvB_iff.mp hv)
  · rw [if_neg hv]; exact h
theorem jo_drop_w {x : Int32} {s : jS} {b : Nat} (h : jw s b) (hb : b ≤ 44) : jw (jo_drop s x).2 b := by
  unfold jo_drop
  have hn := h.1
  by_cases hv : 0 ≤ x ∧ x < nI (jn s)
  · rw [if_pos hv]
    obtain ⟨j, hj, rfl⟩ := nI_of (Int32.not_lt.mpr hv.1)
    have := (nI_lt_iff (by omega) (by omega)).mp hv.2
    rw [nI_clamp hj]
    exact jw_drop h this
  · rw [if_neg hv]; exact h
theorem jo_str_w {x f t : Int32} {s : jS} (h : jw s 20) : jw (jo_str s x f t).2 20 := by
  unfold jo_str
  have hn := h.1
  by_cases hv : (0 ≤ x ∧ x < nI (jn s)) ∧ (0 ≤ f ∧ f ≤ t ∧ t ≤ 359)
  · rw [if_pos hv]
    obtain ⟨j, hj, rfl⟩ := nI_of (Int32.not_lt.mpr hv.1.1)
    have hjn := (nI_lt_iff (by omega) (by omega)).mp hv.1.2
    obtain ⟨t', ht, rfl⟩ := nI_of2 (n := 359) (M := 359) (by decide) (Int32.not_lt.mpr (Int32.le_trans hv.2.1 hv.2.2.1)) hv.2.2.2
    obtain ⟨f', hf, rfl⟩ := nI_of2 (n := 359) (M := 359) (by decide) (Int32.not_lt.mpr hv.2.1) (Int32.le_trans hv.2.2.1 hv.2.2.2)
    have hft := (nI_le_iff (by omega) (by omega)).mp hv.2.2.1
    rw [nI_clamp hj]
    split
    · exact h
    · exact jw_str h hjn hft (by omega)
  · rw [if_neg hv]; exact h
theorem jo_law_w {c w v : Int32} {s : jS} (h : jw s 20) : jw (jo_law s c w v).2 20 := by
  unfold jo_law
  by_cases hv : (0 ≤ c ∧ c ≤ 4) ∧ (0 ≤ w ∧ w ≤ 3) ∧ (jm_ll w ≤ v ∧ v ≤ jm_lm w)
  · rw [if_pos hv]
    have h0 : ¬ v < 0 := by
      refine Int32.not_lt.mpr (Int32.le_trans ?_ hv.2.2.1)
      unfold jm_ll
      split <;> decide
    have h1 : v ≤ 359 := by
      refine Int32.le_trans hv.2.2.2 ?_
      unfold jm_lm
      split
      · decide
      · split <;> decide
    obtain ⟨v', hv', rfl⟩ := nI_of2 (n := 359) (M := 359) (by decide) h0 h1
    split
    · exact h
    · exact jw_law h hv'
  · rw [if_neg hv]; exact h
theorem jo_ix_w {y v : Int32} {s : jS} (h : jw s 20) : jw (jo_ix s y v).2 20 := by
  unfold jo_ix
  by_cases hv : (0 ≤ y ∧ y ≤ 29) ∧ (50 ≤ v ∧ v ≤ 400)
  · rw [if_pos hv]
    obtain ⟨v', hv', rfl⟩ := nI_of2 (n := 400) (M := 400) (by decide) (Int32.not_lt.mpr (Int32.le_trans (by decide) hv.2.1)) hv.2.2
    split
    · exact h
    · exact jw_ix h hv'
  · rw [if_neg hv]; exact h
theorem jo_set_w {w v : Int32} {s : jS} (h : jw s 20) : jw (jo_set s w v).2 20 := by
  unfold jo_set
  split
  · by_cases hv : 0 ≤ v ∧ v ≤ 24
    · rw [if_pos hv]
      obtain ⟨v', hv', rfl⟩ := nI_of2 (n := 24) (M := 24) (by decide) (Int32.not_lt.mpr hv.1) hv.2
      split
      · exact h
      · exact jw_cr h hv'
    · rw [if_neg hv]; exact h
  · split
    · by_cases hv : 0 ≤ v ∧ v ≤ 60
      · rw [if_pos hv]
        obtain ⟨v', hv', rfl⟩ := nI_of2 (n := 60) (M := 60) (by decide) (Int32.not_lt.mpr hv.1) hv.2
        split
        · exact h
        · exact jw_le h hv'
      · rw [if_neg hv]; exact h
    · exact h
section Trial
variable {X : Nat × (Nat → Int32)} {M : Nat → Nat → Int32} {L : Nat → Nat → Int64} {G : Nat → Nat → Option Nat} {Q : am_Q} {s : jS}
theorem ct_isCountryB {x : Int32} (hQ : Q (some (some (.int (jb (decide (0 ≤ x ∧ x ≤ 4)))))) (jm_s M L G)) : am_T X 103 0 [some (.int x)] [] (jm_s M L G) (0, 0) Q := by
  rcases jx_case 5 (by decide) x with h | ⟨c, hc, rfl⟩
  · rw [rc_n h] at hQ
    exact ct_isCountry_n h hQ
  · rw [rc_y hc] at hQ
    exact ct_isCountry_y hc hQ
theorem ct_isMonthB {x : Int32} (hQ : Q (some (some (.int (jb (decide (0 ≤ x ∧ x ≤ 359)))))) (jm_s M L G)) : am_T X 101 0 [some (.int x)] [] (jm_s M L G) (0, 0) Q := by
  rcases jx_case 360 (by decide) x with h | ⟨c, hc, rfl⟩
  · rw [rm_n h] at hQ
    exact ct_isMonth_n h hQ
  · rw [rm_y hc] at hQ
    exact ct_isMonth_y hc hQ
theorem ct_canLast {f t : Int32} (hQ : Q (some (some (.int (jb (decide (0 ≤ f ∧ f ≤ t ∧ t ≤ 359)))))) (jm_s M L G)) : am_T X 32 0 [some (.int f), some (.int t)] [] (jm_s M L G) (0, 0) Q := by
  have q0 : ¬ (0 ≤ f ∧ f ≤ t ∧ t ≤ 359) → Q (some (some (.int 0))) (jm_s M L G) := by
    intro h
    rw [jb_n (decide_eq_false h)] at hQ
    exact hQ
  refine rg_X3_canLast_0 (cl_i (fun _ h => ct_isMonthB h) (rn_X3_canLast_4 ?_))
  by_cases h1 : 0 ≤ f ∧ f ≤ 359
  · rw [jb_y (decide_eq_true h1)]
    refine ⟨fun e => absurd e (by decide), fun _ => cl_i (fun _ h => ct_isMonthB h) (rn_X3_canLast_11 ?_)⟩
    by_cases h2 : 0 ≤ t ∧ t ≤ 359
    · rw [jb_y (decide_eq_true h2)]
      refine ⟨fun e => absurd e (by decide), fun _ => ⟨fun h => q0 (fun e => Int32.not_lt.mpr e.2.1 h), fun h => ?_⟩⟩
      rw [jb_y (decide_eq_true ⟨h1.1, Int32.not_lt.mp h, h2.2⟩)] at hQ
      exact hQ
    · rw [jb_n (decide_eq_false h2)]
      exact ⟨fun _ => q0 (fun e => h2 ⟨Int32.le_trans e.1 e.2.1, e.2.2⟩), fun e => absurd rfl e⟩
  · rw [jb_n (decide_eq_false h1)]
    exact ⟨fun _ => q0 (fun e => h1 ⟨e.1, Int32.le_trans e.2.1 e.2.2⟩), fun e => absurd rfl e⟩
theorem ct_append {n : Nat} (hn : M 10 0 = nI n) (hn2 : n < 44) {x1 x2 x3 x4 x5 : Int32} (hQ : Q (some none) (jm_s (wi_m (wi_m (wi_m (wi_m (wi_m (wi_m M 14 (5 * n + 0) x1) 14 (5 * n + 1) x2) 14 (5 * n + 2) x3) 14 (5 * n + 3) x4) 14 (5 * n + 4) x5) 10 0 (nI (n + 1))) L G)) : am_T X 33 0 [some (.ref 10), some (.int x1), some (.int x2), some (.int x3), some (.int x4), some (.int x5), none] [] (jm_s M L G) (0, 0) Q := by
  have e5 : nI n * 5 = nI (5 * n) := (pk_mul n 5).trans (congrArg nI (by omega))
  have e : ∀ w, nI (5 * n) + nI w = nI (5 * n + w) := fun w => nI_add _ _
  refine rn_X3_append_10_0 ?_
  rw [hn, e5, show nI (5 * n) + 0 = nI (5 * n + 0) from e 0, show nI (5 * n) + 1 = nI (5 * n + 1) from e 1, show nI (5 * n) + 2 = nI (5 * n + 2) from e 2, show nI (5 * n) + 3 = nI (5 * n + 3) from e 3, show nI (5 * n) + 4 = nI (5 * n + 4) from e 4, show nI (5 * n) + 5 = nI (5 * n + 5) from e 5, nI_clamp (show 5 * n + 0 < 2147483648 by omega), nI_clamp (show 5 * n + 1 < 2147483648 by omega), nI_clamp (show 5 * n + 2 < 2147483648 by omega), nI_clamp (show 5 * n + 3 < 2147483648 by omega), nI_clamp (show 5 * n + 4 < 2147483648 by omega), nI_1]
  refine ⟨fun _ => ⟨vp_in_nI (by omega) (by decide), vp_in_nI (by omega) (by decide), vp_in_nI (by omega) (by decide), vp_in_nI (by omega) (by decide), vp_in_nI (by omega) (by decide), hQ⟩, fun h => absurd (nI_le (by omega) (by decide)) h⟩
theorem jh_put (hS : jh M 10 s) {x1 x2 x3 x4 x5 : Int32} : jh (wi_m (wi_m (wi_m (wi_m (wi_m (wi_m M 14 (5 * jn s + 0) x1) 14 (5 * jn s + 1) x2) 14 (5 * jn s + 2) x3) 14 (5 * jn s + 3) x4) 14 (5 * jn s + 4) x5) 10 0 (nI (jn s + 1))) 10 (js_put s x1 x2 x3 x4 x5) := by
  obtain ⟨h1, h2, h3, h4, h5, h6, h7⟩ := hS
  refine ⟨?_, fun i hi => ?_, fun i hi => ?_, fun i hi => ?_, fun i hi => ?_, ?_, ?_⟩
  · exact wi_m_i _ _ _ _
  · have hi2 : i < 5 * (jn s + 1) := hi
    show _ = (if i = 5 * jn s + 4 then x5 else if i = 5 * jn s + 3 then x4 else if i = 5 * jn s + 2 then x3 else if i = 5 * jn s + 1 then x2 else if i = 5 * jn s + 0 then x1 else jsp s i)
    have := h2 i
    simp only [wi_m_eq]
    grind
  · exact h3 i hi
  · exact h4 i hi
  · exact h5 i hi
  · exact h6
  · exact h7
theorem ct_append_s (hS : jh M 10 s) (hn : jn s < 44) {x1 x2 x3 x4 x5 : Int32} (hQ : ∀ M', (∀ q, q < 10 ∨ 14 < q → M' q = M q) → jh M' 10 (js_put s x1 x2 x3 x4 x5) → Q (some none) (jm_s M' L G)) : am_T X 33 0 [some (.ref 10), some (.int x1), some (.int x2), some (.int x3), some (.int x4), some (.int x5), none] [] (jm_s M L G) (0, 0) Q := by
  refine ct_append hS.1 hn (hQ _ (fun q hq => ?_) (jh_put hS))
  rw [wi_m_p _ _ (by omega), wi_m_p _ _ (by omega), wi_m_p _ _ (by omega), wi_m_p _ _ (by omega), wi_m_p _ _ (by omega), wi_m_p _ _ (by omega)]
theorem ct_bring (hS : jh M 10 s) (hn : jn s ≤ 20) {x1 x2 x3 x4 x5 : Int32} (hQ : ∀ M', (∀ q, q < 10 ∨ 14 < q → M' q = M q) → jh M' 10 (jo_bring s x1 x2 x3 x4 x5).2 → Q (some (some (.int (jo_bring s x1 x2 x3 x4 x5).1))) (jm_s M' L G)) : am_T X 31 0 [some (.ref 10), some (.int x1), some (.int x2), some (.int x3), some (.int x4), some (.int x5)] [] (jm_s M L G) (0, 0) Q := by
  have q0 : ¬ jv x1 x2 x3 x4 x5 → Q (some (some (.int (-1)))) (jm_s M L G) := by
    intro h
    unfold jo_bring at hQ
    rw [if_neg (fun e => h (jvB_iff.mp e))] at hQ
    exact hQ M (fun _ _ => rfl) hS
  refine rg_X3_bring_10_0 (cl_i (fun _ h => ct_isCountryB h) (rn_X3_bring_10_4 ?_))
  by_cases h1 : 0 ≤ x1 ∧ x1 ≤ 4
  · rw [jb_y (decide_eq_true h1)]
    refine ⟨fun e => absurd e (by decide), fun _ => ⟨fun h => q0 (fun e => Int32.not_lt.mpr e.2.1.1 h), fun h2 => ⟨fun h => q0 (fun e => absurd (Int32.le_trans h e.2.1.2) (by decide)), fun h3 => cl_i (fun _ h => ct_canLast h) (rn_X3_bring_10_22 ?_)⟩⟩⟩
    by_cases h4 : 0 ≤ x3 ∧ x3 ≤ x4 ∧ x4 ≤ 359
    · rw [jb_y (decide_eq_true h4)]
      refine ⟨fun e => absurd e (by decide), fun _ => ⟨fun h => q0 (fun e => Int32.not_lt.mpr e.2.2.2.2.1 h), fun h5 => ⟨fun h6 => ?_, fun h => q0 (fun e => h e.2.2.2.2.2)⟩⟩⟩
      have hv : jv x1 x2 x3 x4 x5 := ⟨h1, ⟨Int32.not_lt.mp h2, (jlt' (k := 3) (by decide)).mp h3⟩, ⟨h4.1, Int32.le_trans h4.2.1 h4.2.2⟩, ⟨h4.2.1, h4.2.2⟩, ⟨Int32.not_lt.mp h5, h6⟩⟩
      unfold jo_bring at hQ
      rw [if_pos (jvB_iff.mpr hv)] at hQ
      rw [hS.1]
      refine ⟨fun h => ?_, fun h => ?_⟩
      · have hlt := (nI_lt_iff (show jn s < 2147483648 by omega) (show 20 < 2147483648 by decide)).mp h
        rw [if_neg (by omega)] at hQ
        refine cl_v (ct_append_s hS (by omega) (fun M' f hS' => ⟨rfl, rg_X3_bring_10_64 ?_⟩))
        rw [hS'.1]
        exact hQ M' f hS'
      · have hlt : ¬ jn s < 20 := fun q => h ((nI_lt_iff (show jn s < 2147483648 by omega) (show 20 < 2147483648 by decide)).mpr q)
        rw [if_pos (by omega)] at hQ
        exact hQ M (fun _ _ => rfl) hS
    · rw [jb_n (decide_eq_false h4)]
      exact ⟨fun _ => q0 (fun e => h4 ⟨e.2.2.1.1, e.2.2.2.1.1, e.2.2.2.1.2⟩), fun e => absurd rfl e⟩
  · rw [jb_n (decide_eq_false h1)]
    exact ⟨fun _ => q0 (fun e => h1 e.1), fun e => absurd rfl e⟩
theorem ct_has10 (hS : jh M 10 s) {x : Int32} (hQ : Q (some (some (.int (jb (decide (0 ≤ x ∧ x < nI (jn s))))))) (jm_s M L G)) : am_T X 27 0 [some (.ref 10), some (.int x)] [] (jm_s M L G) (0, 0) Q := by
  refine rn_X3_has_10_0 ?_
  rw [hS.1]
  refine ⟨fun h => ?_, fun h => ⟨fun h2 => ?_, fun h2 => ?_⟩⟩
  · rw [jb_n (decide_eq_false (fun e => Int32.not_lt.mpr e.1 h))] at hQ
    exact hQ
  · rw [jb_n (decide_eq_false (fun e => Int32.not_lt.mpr h2 e.2))] at hQ
    exact hQ
  · rw [jb_y (decide_eq_true ⟨Int32.not_lt.mp h, Int32.not_le.mp h2⟩)] at hQ
    exact hQ
theorem ct_drop (hS : jh M 10 s) (hn : jn s ≤ 44) {x : Int32} (hQ : ∀ M', (∀ q, q < 10 ∨ 14 < q → M' q = M q) → jh M' 10 (jo_drop s x).2 → Q (some (some (.int (jo_drop s x).1))) (jm_s M' L G)) : am_T X 34 0 [some (.ref 10), some (.int x), none, none] [] (jm_s M L G) (0, 0) Q := by
  refine rg_X3_drop_10_0 (cl_i (fun _ h => ct_has10 hS h) (rn_X3_drop_10_5 ?_))
  unfold jo_drop at hQ
  by_cases hv : 0 ≤ x ∧ x < nI (jn s)
  · rw [if_pos hv] at hQ
    rw [jb_y (decide_eq_true hv)]
    refine ⟨fun e => absurd e (by decide), fun _ => ?_⟩
    obtain ⟨k, hk, rfl⟩ := nI_of (Int32.not_lt.mpr hv.1)
    have hkn := (nI_lt_iff (by omega) (by omega)).mp hv.2
    rw [nI_clamp hk] at hQ
    have e1 : nI k * 5 = nI (5 * k) := (pk_mul k 5).trans (congrArg nI (by omega))
    have e2 : nI (5 * k) + 5 = nI (5 * k + 5) := nI_add _ 5
    have e3 : nI (jn s) * 5 = nI (5 * jn s) := (pk_mul (jn s) 5).trans (congrArg nI (by omega))
    have e4 : nI (5 * jn s) - nI (5 * k + 5) = nI (5 * jn s - (5 * k + 5)) := pk_sub (by omega)
    have e5 : nI (jn s) - 1 = nI (jn s - 1) := pk_sub (b := 1) (by omega)
    rw [hS.1, e1, e2, e3, e4, e5, nI_clamp (show 5 * k < 2147483648 by omega), nI_clamp (show 5 * k + 5 < 2147483648 by omega), nI_clamp (show 5 * jn s - (5 * k + 5) < 2147483648 by omega)]
    refine ⟨⟨nI_pos (by omega), nI_pos (by omega), nI_pos (by omega), by omega, by omega⟩, hQ _ (fun q hq => ?_) ?_⟩
    · rw [wi_m_p _ _ (by omega)]
      funext j
      rw [wc_m_eq, if_neg (by omega)]
    · obtain ⟨h1, h2, h3, h4, h5, h6, h7⟩ := hS
      refine ⟨?_, fun i hi => ?_, fun i hi => ?_, fun i hi => ?_, fun i hi => ?_, ?_, ?_⟩
      · exact wi_m_i _ _ _ _
      · have hi2 : i < 5 * (jn s - 1) := hi
        show _ = (if 5 * k ≤ i then jsp s (i + 5) else jsp s i)
        rw [wi_m_p _ _ (show 10 + 4 ≠ 10 by decide), wc_m_eq, if_pos rfl]
        by_cases hki : 5 * k ≤ i
        · rw [if_pos ⟨hki, by omega⟩, if_pos hki, ← h2 (i + 5) (by omega)]
          exact congrArg (M 14) (by omega)
        · rw [if_neg (by omega), if_neg hki, ← h2 i (by omega)]
      · exact h3 i hi
      · exact h4 i hi
      · exact h5 i hi
      · exact h6
      · exact h7
  · rw [if_neg hv] at hQ
    rw [jb_n (decide_eq_false hv)]
    exact ⟨fun _ => hQ M (fun _ _ => rfl) hS, fun e => absurd rfl e⟩
theorem ct_numberOf_t (hS : jh M 10 s) (hn : jn s ≤ 44) {k w : Nat} (hk : k < jn s) (hw : w < 5) (hQ : Q (some (some (.int (jm_of (jsp s) k w)))) (jm_s M L G)) : am_T X 28 0 [some (.ref 10), some (.int (nI k)), some (.int (nI w))] [] (jm_s M L G) (0, 0) Q := by
  refine ct_numberOf_10 (by omega) ?_
  rw [jg_of hS.2.1 hk hw]
  exact hQ
theorem ct_stretch (hS : jh M 10 s) (hn : jn s ≤ 20) {x f t : Int32} (hQ : ∀ M', (∀ q, q < 10 ∨ 14 < q → M' q = M q) → jh M' 10 (jo_str s x f t).2 → Q (some (some (.int (jo_str s x f t).1))) (jm_s M' L G)) : am_T X 35 0 [some (.ref 10), some (.int x), some (.int f), some (.int t)] [] (jm_s M L G) (0, 0) Q := by
  refine rg_X3_stretch_10_0 (cl_i (fun _ h => ct_has10 hS h) (rn_X3_stretch_10_5 ?_))
  unfold jo_str at hQ
  by_cases hv : 0 ≤ x ∧ x < nI (jn s)
  · rw [jb_y (decide_eq_true hv)]
    refine ⟨fun e => absurd e (by decide), fun _ => cl_i (fun _ h => ct_canLast h) (rn_X3_stretch_10_13 ?_)⟩
    by_cases hl : 0 ≤ f ∧ f ≤ t ∧ t ≤ 359
    · rw [jb_y (decide_eq_true hl)]
      rw [if_pos ⟨hv, hl⟩] at hQ
      obtain ⟨k, hk, rfl⟩ := nI_of (Int32.not_lt.mpr hv.1)
      have hkn := (nI_lt_iff (by omega) (by omega)).mp hv.2
      rw [nI_clamp hk] at hQ
      have e2 : nI k * 5 + 2 = nI (5 * k + 2) := by
        rw [show nI k * 5 = nI (5 * k) from (pk_mul k 5).trans (congrArg nI (by omega))]
        exact nI_add _ 2
      have e3 : nI k * 5 + 3 = nI (5 * k + 3) := by
        rw [show nI k * 5 = nI (5 * k) from (pk_mul k 5).trans (congrArg nI (by omega))]
        exact nI_add _ 3
      have fin : ¬ (jm_of (jsp s) k 2 = f ∧ jm_of (jsp s) k 3 = t) → Q (some (some (.int (t - f + 1)))) (jm_s (wi_m (wi_m M 14 (5 * k + 2) f) 14 (5 * k + 3) t) L G) := by
        intro hne
        rw [if_neg hne] at hQ
        refine hQ _ (fun q hq => ?_) ?_
        · rw [wi_m_p _ _ (by omega), wi_m_p _ _ (by omega)]
        · obtain ⟨h1, h2, h3, h4, h5, h6, h7⟩ := hS
          refine ⟨?_, fun i hi => ?_, fun i hi => ?_, fun i hi => ?_, fun i hi => ?_, ?_, ?_⟩
          · rw [wi_m_p _ _ (show 10 ≠ 14 by decide), wi_m_p _ _ (show 10 ≠ 14 by decide)]; exact h1
          · have hi2 : i < 5 * jn s := hi
            show _ = (if i = 5 * k + 3 then t else if i = 5 * k + 2 then f else jsp s i)
            have := h2 i
            simp only [wi_m_eq]
            grind
          · exact h3 i hi
          · exact h4 i hi
          · exact h5 i hi
          · exact h6
          · exact h7
      refine ⟨fun e => absurd e (by decide), fun _ => cl_i (fun _ h => ct_numberOf_t hS (by omega) (w := 2) hkn (by decide) h) (rn_X3_stretch_10_24 ?_)⟩
      rw [e2, e3, nI_clamp (show 5 * k + 2 < 2147483648 by omega), nI_clamp (show 5 * k + 3 < 2147483648 by omega)]
      refine ⟨fun h2 => cl_i (fun _ h => ct_numberOf_t hS (by omega) (w := 3) hkn (by decide) h) (rn_X3_stretch_10_34 ?_), fun h2 => ⟨vp_in_nI (by omega) (by decide), vp_in_nI (by omega) (by decide), fin (fun e => h2 e.1)⟩⟩
      rw [e2, e3, nI_clamp (show 5 * k + 2 < 2147483648 by omega), nI_clamp (show 5 * k + 3 < 2147483648 by omega)]
      refine ⟨fun h3 => ?_, fun h3 => ⟨vp_in_nI (by omega) (by decide), vp_in_nI (by omega) (by decide), fin (fun e => h3 e.2)⟩⟩
      rw [if_pos ⟨h2, h3⟩] at hQ
      exact hQ M (fun _ _ => rfl) hS
    · rw [jb_n (decide_eq_false hl)]
      rw [if_neg (fun e => hl e.2)] at hQ
      exact ⟨fun _ => hQ M (fun _ _ => rfl) hS, fun e => absurd rfl e⟩
  · rw [if_neg (fun e => hv e.1)] at hQ
    rw [jb_n (decide_eq_false hv)]
    exact ⟨fun _ => hQ M (fun _ _ => rfl) hS, fun e => absurd rfl e⟩
theorem ct_isLawNumberB {x : Int32} (hQ : Q (some (some (.int (jb (decide (0 ≤ x ∧ x ≤ 3)))))) (jm_s M L G)) : am_T X 104 0 [some (.int x)] [] (jm_s M L G) (0, 0) Q := by
  rcases jx_case 4 (by decide) x with h | ⟨c, hc, rfl⟩
  · rw [show jb (decide (0 ≤ x ∧ x ≤ 3)) = 0 from ri_n (h.imp id (fun h => nI_lt_of (b := 3) (by decide) h))] at hQ
    exact ct_isLawNumber_n h hQ
  · rw [show jb (decide (0 ≤ nI c ∧ nI c ≤ 3)) = 1 from ri_y (nI_pos' (by omega)) (nI_le (show c ≤ 3 by omega) (by decide))] at hQ
    exact ct_isLawNumber_y hc hQ
theorem ct_isYearB {x : Int32} (hQ : Q (some (some (.int (jb (decide (0 ≤ x ∧ x ≤ 29)))))) (jm_s M L G)) : am_T X 102 0 [some (.int x)] [] (jm_s M L G) (0, 0) Q := by
  rcases jx_case 30 (by decide) x with h | ⟨c, hc, rfl⟩
  · rw [show jb (decide (0 ≤ x ∧ x ≤ 29)) = 0 from ri_n (h.imp id (fun h => nI_lt_of (b := 29) (by decide) h))] at hQ
    exact ct_isYear_n h hQ
  · rw [show jb (decide (0 ≤ nI c ∧ nI c ≤ 29)) = 1 from ri_y (nI_pos' (by omega)) (nI_le (show c ≤ 29 by omega) (by decide))] at hQ
    exact ct_isYear_y hc hQ
theorem ct_amend (hS : jh M 10 s) {x1 x2 x3 : Int32} (hQ : ∀ M', (∀ q, q < 10 ∨ 14 < q → M' q = M q) → jh M' 10 (jo_law s x1 x2 x3).2 → Q (some (some (.int (jo_law s x1 x2 x3).1))) (jm_s M' L G)) : am_T X 37 0 [some (.ref 10), some (.int x1), some (.int x2), some (.int x3), none] [] (jm_s M L G) (0, 0) Q := by
  unfold jo_law at hQ
  refine rg_X3_amend_10_0 (cl_i (fun _ h => ct_isCountryB h) (rn_X3_amend_10_4 ?_))
  by_cases h1 : 0 ≤ x1 ∧ x1 ≤ 4
  · rw [jb_y (decide_eq_true h1)]
    refine ⟨fun e => absurd e (by decide), fun _ => cl_i (fun _ h => ct_isLawNumberB h) (rn_X3_amend_10_11 ?_)⟩
    by_cases h2 : 0 ≤ x2 ∧ x2 ≤ 3
    · rw [jb_y (decide_eq_true h2)]
      obtain ⟨c, hc, rfl⟩ := nI_of2 (n := 4) (M := 4) (by decide) (Int32.not_lt.mpr h1.1) h1.2
      obtain ⟨w, hw, rfl⟩ := nI_of2 (n := 3) (M := 3) (by decide) (Int32.not_lt.mpr h2.1) h2.2
      obtain ⟨ka1, ka2⟩ := jm_ka1 w (by omega)
      have ei : nI c * 4 + nI w = nI (4 * c + w) := by
        rw [show nI c * 4 = nI (c * 4) from pk_mul c 4, nI_add, Nat.mul_comm c 4]
      rw [nI_clamp (show c < 2147483648 by omega), nI_clamp (show w < 2147483648 by omega)] at hQ
      rw [nI_clamp (show w < 2147483648 by omega), ka1, ka2]
      refine ⟨fun e => absurd e (by decide), fun _ => ⟨vp_in_nI (by omega) (by decide), fun h => ?_, fun h3 => ⟨fun h4 => ?_, fun h => ?_⟩⟩⟩
      · rw [if_neg (fun e => Int32.not_lt.mpr e.2.2.1 h)] at hQ
        exact hQ M (fun _ _ => rfl) hS
      · rw [if_pos ⟨h1, h2, Int32.not_lt.mp h3, h4⟩] at hQ
        refine cl_i (fun _ h => ct_lawOf_10 (show 4 * c + w < 20 by omega) h) (rn_X3_amend_10_40 ?_)
        rw [ei, nI_clamp (show 4 * c + w < 2147483648 by omega), show M 11 (4 * c + w) = _ from hS.2.2.1 (4 * c + w) (by omega)]
        refine ⟨fun h5 => ?_, fun h5 => ⟨vp_in_nI (by omega) (by decide), ?_⟩⟩
        · rw [if_pos h5] at hQ
          exact hQ M (fun _ _ => rfl) hS
        · rw [if_neg h5] at hQ
          refine hQ _ (fun q hq => wi_m_p _ _ (by omega)) ?_
          obtain ⟨g1, g2, g3, g4, g5, g6, g7⟩ := hS
          refine ⟨g1, g2, fun i hi => ?_, g4, g5, g6, g7⟩
          show _ = (if i = 4 * c + w then x3 else jlw s i)
          have := g3 i hi
          simp only [wi_m_eq]
          grind
      · rw [if_neg (fun e => h e.2.2.2)] at hQ
        exact hQ M (fun _ _ => rfl) hS
    · rw [jb_n (decide_eq_false h2)]
      rw [if_neg (fun e => h2 e.2.1)] at hQ
      exact ⟨fun _ => hQ M (fun _ _ => rfl) hS, fun e => absurd rfl e⟩
  · rw [jb_n (decide_eq_false h1)]
    rw [if_neg (fun e => h1 e.1)] at hQ
    exact ⟨fun _ => hQ M (fun _ _ => rfl) hS, fun e => absurd rfl e⟩
theorem ct_putIndex (hS : jh M 10 s) {x1 x2 : Int32} (hQ : ∀ M', (∀ q, q < 10 ∨ 14 < q → M' q = M q) → jh M' 10 (jo_ix s x1 x2).2 → Q (some (some (.int (jo_ix s x1 x2).1))) (jm_s M' L G)) : am_T X 38 0 [some (.ref 10), some (.int x1), some (.int x2), none] [] (jm_s M L G) (0, 0) Q := by
  unfold jo_ix at hQ
  refine rg_X3_putIndex_10_0 (cl_i (fun _ h => ct_isYearB h) (rn_X3_putIndex_10_4 ?_))
  by_cases h1 : 0 ≤ x1 ∧ x1 ≤ 29
  · rw [jb_y (decide_eq_true h1)]
    obtain ⟨y, hy, rfl⟩ := nI_of2 (n := 29) (M := 29) (by decide) (Int32.not_lt.mpr h1.1) h1.2
    rw [nI_clamp (show y < 2147483648 by omega)] at hQ ⊢
    refine ⟨fun e => absurd e (by decide), fun _ => ⟨fun h => ?_, fun h3 => ⟨fun h4 => ⟨vp_in_nI (by omega) (by decide), ?_⟩, fun h => ?_⟩⟩⟩
    · rw [if_neg (fun e => Int32.not_lt.mpr e.2.1 h)] at hQ
      exact hQ M (fun _ _ => rfl) hS
    · rw [if_pos ⟨h1, Int32.not_lt.mp h3, h4⟩] at hQ
      rw [show M 13 y = _ from hS.2.2.2.2.1 y (by omega)]
      refine ⟨fun h5 => ?_, fun h5 => ?_⟩
      · rw [if_pos h5] at hQ
        exact hQ M (fun _ _ => rfl) hS
      · rw [if_neg h5] at hQ
        refine hQ _ (fun q hq => wi_m_p _ _ (by omega)) ?_
        obtain ⟨g1, g2, g3, g4, g5, g6, g7⟩ := hS
        refine ⟨g1, g2, g3, g4, fun i hi => ?_, g6, g7⟩
        show _ = (if i = y then x2 else jix s i)
        have := g5 i hi
        simp only [wi_m_eq]
        grind
    · rw [if_neg (fun e => h e.2.2)] at hQ
      exact hQ M (fun _ _ => rfl) hS
  · rw [jb_n (decide_eq_false h1)]
    rw [if_neg (fun e => h1 e.1)] at hQ
    exact ⟨fun _ => hQ M (fun _ _ => rfl) hS, fun e => absurd rfl e⟩
theorem ct_adjust (hS : jh M 10 s) {x1 x2 : Int32} (hQ : ∀ M', (∀ q, q < 10 ∨ 14 < q → M' q = M q) → jh M' 10 (jo_set s x1 x2).2 → Q (some (some (.int (jo_set s x1 x2).1))) (jm_s M' L G)) : am_T X 39 0 [some (.ref 10), some (.int x1), some (.int x2), none] [] (jm_s M L G) (0, 0) Q := by
  unfold jo_set at hQ
  have e5 : M 10 5 = jcr s := hS.2.2.2.2.2.1
  have e6 : M 10 6 = jle s := hS.2.2.2.2.2.2
  refine rn_X3_adjust_10_0 ⟨fun h0 => ?_, fun h0 => ⟨fun h1 => ?_, fun h1 => ?_⟩⟩
  · rw [if_pos h0] at hQ
    rw [e5]
    refine ⟨fun h => ?_, fun h2 => ⟨fun h3 => ⟨fun h4 => ?_, fun h4 => ?_⟩, fun h => ?_⟩⟩
    · rw [if_neg (fun e => Int32.not_lt.mpr e.1 h)] at hQ
      exact hQ M (fun _ _ => rfl) hS
    · rw [if_pos ⟨Int32.not_lt.mp h2, h3⟩, if_pos h4] at hQ
      exact hQ M (fun _ _ => rfl) hS
    · rw [if_pos ⟨Int32.not_lt.mp h2, h3⟩, if_neg h4] at hQ
      refine hQ _ (fun q hq => wi_m_p _ _ (by omega)) ?_
      obtain ⟨g1, g2, g3, g4, g5, g6, g7⟩ := hS
      exact ⟨g1, g2, g3, g4, g5, wi_m_i _ _ _ _, g7⟩
    · rw [if_neg (fun e => h e.2)] at hQ
      exact hQ M (fun _ _ => rfl) hS
  · rw [if_neg h0, if_pos h1] at hQ
    rw [e6]
    refine ⟨fun h => ?_, fun h2 => ⟨fun h3 => ⟨fun h4 => ?_, fun h4 => ?_⟩, fun h => ?_⟩⟩
    · rw [if_neg (fun e => Int32.not_lt.mpr e.1 h)] at hQ
      exact hQ M (fun _ _ => rfl) hS
    · rw [if_pos ⟨Int32.not_lt.mp h2, h3⟩, if_pos h4] at hQ
      exact hQ M (fun _ _ => rfl) hS
    · rw [if_pos ⟨Int32.not_lt.mp h2, h3⟩, if_neg h4] at hQ
      refine hQ _ (fun q hq => wi_m_p _ _ (by omega)) ?_
      obtain ⟨g1, g2, g3, g4, g5, g6, g7⟩ := hS
      exact ⟨g1, g2, g3, g4, g5, g6, wi_m_i _ _ _ _⟩
    · rw [if_neg (fun e => h e.2)] at hQ
      exact hQ M (fun _ _ => rfl) hS
  · rw [if_neg h0, if_neg h1] at hQ
    exact hQ M (fun _ _ => rfl) hS
end Trial
