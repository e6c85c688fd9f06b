/-! ===== changes of a state, and the class's trial (written by wip/gen/gen_ops.py) ===== -/
def js_put (s : jS) (x1 x2 x3 x4 x5 : Int32) : jS := (jn s + 1, fun i => if i = 5 * jn s + 4 then x5 else if i = 5 * jn s + 3 then x4 else if i = 5 * jn s + 2 then x3 else if i = 5 * jn s + 1 then x2 else if i = 5 * jn s + 0 then x1 else jsp s i, s.2.2)
def js_drop (s : jS) (k : Nat) : jS := (jn s - 1, fun i => if 5 * k ≤ i then jsp s (i + 5) else jsp s i, s.2.2)
def js_str (s : jS) (k : Nat) (f t : Int32) : jS := (jn s, fun i => if i = 5 * k + 3 then t else if i = 5 * k + 2 then f else jsp s i, s.2.2)
def js_pay (s : jS) (k : Nat) (p : Int32) : jS := (jn s, fun i => if i = 5 * k + 4 then p else jsp s i, s.2.2)
def js_law (s : jS) (i : Nat) (v : Int32) : jS := (jn s, jsp s, fun j => if j = i then v else jlw s j, s.2.2.2)
def js_od (s : jS) (od : Nat → Int32) : jS := (jn s, jsp s, jlw s, od, s.2.2.2.2)
def js_ix (s : jS) (i : Nat) (v : Int32) : jS := (jn s, jsp s, jlw s, jod s, fun j => if j = i then v else jix s j, s.2.2.2.2.2)
def js_cr (s : jS) (v : Int32) : jS := (jn s, jsp s, jlw s, jod s, jix s, v, jle s)
def js_le (s : jS) (v : Int32) : jS := (jn s, jsp s, jlw s, jod s, jix s, jcr s, v)
/-- a SPAN that can be -/
def jv (x1 x2 x3 x4 x5 : Int32) : Prop := (0 ≤ x1 ∧ x1 ≤ 4) ∧ (0 ≤ x2 ∧ x2 ≤ 3) ∧ (0 ≤ x3 ∧ x3 ≤ 359) ∧ (x3 ≤ x4 ∧ x4 ≤ 359) ∧ (1 ≤ x5 ∧ x5 ≤ 999)
theorem jv_nat {x1 x2 x3 x4 x5 : Int32} (h : jv x1 x2 x3 x4 x5) : ∃ c d f t p : Nat, x1 = nI c ∧ x2 = nI d ∧ x3 = nI f ∧ x4 = nI t ∧ x5 = nI p ∧ c < 5 ∧ d < 4 ∧ f ≤ t ∧ t < 360 ∧ 1 ≤ p ∧ p ≤ 999 := by
  obtain ⟨⟨a1, a2⟩, ⟨b1, b2⟩, ⟨c1, c2⟩, ⟨d1, d2⟩, ⟨e1, e2⟩⟩ := h
  obtain ⟨c, hc, rfl⟩ := nI_of2 (n := 4) (M := 4) (by decide) (Int32.not_lt.mpr a1) a2
  obtain ⟨d, hd, rfl⟩ := nI_of2 (n := 3) (M := 3) (by decide) (Int32.not_lt.mpr b1) b2
  obtain ⟨f, hf, rfl⟩ := nI_of2 (n := 359) (M := 359) (by decide) (Int32.not_lt.mpr c1) c2
  obtain ⟨t, ht, rfl⟩ := nI_of2 (n := 359) (M := 359) (by decide) (Int32.not_lt.mpr (Int32.le_trans c1 d1)) d2
  obtain ⟨p, hp, rfl⟩ := nI_of2 (n := 999) (M := 999) (by decide) (Int32.not_lt.mpr (Int32.le_trans (by decide) e1)) e2
  have h1 := (nI_le_iff (by omega) (by omega)).mp d1
  have h2 := (nI_le_iff (show 1 < 2147483648 by decide) (by omega)).mp e1
  exact ⟨c, d, f, t, p, rfl, rfl, rfl, rfl, rfl, by omega, by omega, h1, by omega, h2, by omega⟩
theorem jw_put {s : jS} {b : Nat} {x1 x2 x3 x4 x5 : Int32} (h : jw s b) (hb : jn s + 1 ≤ b) (hv : jv x1 x2 x3 x4 x5) : jw (js_put s x1 x2 x3 x4 x5) b := by
  refine ⟨hb, fun k hk => ?_, h.2.2⟩
  have hk2 : k < jn s + 1 := hk
  by_cases e : k = jn s
  · subst e
    obtain ⟨c, d, f, t, p, h⟩ := jv_nat hv
    refine ⟨c, d, f, t, p, ?_, ?_, ?_, ?_, ?_, h.2.2.2.2.2⟩
    · rw [← h.1]; unfold jm_of js_put jsp jn; simp
    · rw [← h.2.1]; unfold jm_of js_put jsp jn; simp
    · rw [← h.2.2.1]; unfold jm_of js_put jsp jn; simp
    · rw [← h.2.2.2.1]; unfold jm_of js_put jsp jn; simp
    · rw [← h.2.2.2.2.1]; unfold jm_of js_put jsp jn; simp
  · have g : ∀ w, w < 5 → jm_of (jsp (js_put s x1 x2 x3 x4 x5)) k w = jm_of (jsp s) k w := by
      intro w hw
      show (if 5 * k + w = 5 * jn s + 4 then x5 else if 5 * k + w = 5 * jn s + 3 then x4 else if 5 * k + w = 5 * jn s + 2 then x3 else if 5 * k + w = 5 * jn s + 1 then x2 else if 5 * k + w = 5 * jn s + 0 then x1 else jsp s (5 * k + w)) = jsp s (5 * k + w)
      rw [if_neg (by omega), if_neg (by omega), if_neg (by omega), if_neg (by omega), if_neg (by omega)]
    rw [g 0 (by decide), g 1 (by decide), g 2 (by decide), g 3 (by decide), g 4 (by decide)]
    exact h.2.1 k (by omega)
theorem jw_drop {s : jS} {b k : Nat} (h : jw s b) (hk : k < jn s) : jw (js_drop s k) b := by
  refine ⟨Nat.le_trans (Nat.sub_le _ _) h.1, fun j hj => ?_, h.2.2⟩
  have hj2 : j < jn s - 1 := hj
  by_cases e : k ≤ j
  · have g : ∀ w, w < 5 → jm_of (jsp (js_drop s k)) j w = jm_of (jsp s) (j + 1) w := by
      intro w hw
      show (if 5 * k ≤ 5 * j + w then jsp s (5 * j + w + 5) else jsp s (5 * j + w)) = jsp s (5 * (j + 1) + w)
      rw [if_pos (by omega)]
      exact congrArg (jsp s) (by omega)
    rw [g 0 (by decide), g 1 (by decide), g 2 (by decide), g 3 (by decide), g 4 (by decide)]
    exact h.2.1 (j + 1) (by omega)
  · have g : ∀ w, w < 5 → jm_of (jsp (js_drop s k)) j w = jm_of (jsp s) j w := by
      intro w hw
      show (if 5 * k ≤ 5 * j + w then jsp s (5 * j + w + 5) else jsp s (5 * j + w)) = jsp s (5 * j + w)
      rw [if_neg (by omega)]
    rw [g 0 (by decide), g 1 (by decide), g 2 (by decide), g 3 (by decide), g 4 (by decide)]
    exact h.2.1 j (by omega)
theorem jw_str {s : jS} {b k : Nat} {f t : Nat} (h : jw s b) (hk : k < jn s) (hft : f ≤ t) (ht : t < 360) : jw (js_str s k (nI f) (nI t)) b := by
  refine ⟨h.1, fun j hj => ?_, h.2.2⟩
  have g : ∀ w, w < 5 → jm_of (jsp (js_str s k (nI f) (nI t))) j w = if j = k ∧ w = 3 then nI t else if j = k ∧ w = 2 then nI f else jm_of (jsp s) j w := by
    intro w hw
    show (if 5 * j + w = 5 * k + 3 then nI t else if 5 * j + w = 5 * k + 2 then nI f else jsp s (5 * j + w)) = _
    by_cases e : j = k ∧ w = 3
    · rw [if_pos (by omega), if_pos e]
    rw [if_neg (by omega), if_neg e]
    by_cases e2 : j = k ∧ w = 2
    · rw [if_pos (by omega), if_pos e2]
    · rw [if_neg (by omega), if_neg e2]
      rfl
  obtain ⟨c, d, f', t', p, e0, e1, e2, e3, e4, b0, b1, b2, b3, b4, b5⟩ := h.2.1 j hj
  rw [g 0 (by decide), g 1 (by decide), g 2 (by decide), g 3 (by decide), g 4 (by decide)]
  by_cases e : j = k
  · refine ⟨c, d, f, t, p, ?_, ?_, ?_, ?_, ?_, b0, b1, hft, ht, b4, b5⟩
    · rw [if_neg (by omega), if_neg (by omega)]; exact e0
    · rw [if_neg (by omega), if_neg (by omega)]; exact e1
    · rw [if_neg (by omega), if_pos ⟨e, rfl⟩]
    · rw [if_pos ⟨e, rfl⟩]
    · rw [if_neg (by omega), if_neg (by omega)]; exact e4
  · refine ⟨c, d, f', t', p, ?_, ?_, ?_, ?_, ?_, b0, b1, b2, b3, b4, b5⟩
    · rw [if_neg (by omega), if_neg (by omega)]; exact e0
    · rw [if_neg (by omega), if_neg (by omega)]; exact e1
    · rw [if_neg (by omega), if_neg (by omega)]; exact e2
    · rw [if_neg (by omega), if_neg (by omega)]; exact e3
    · rw [if_neg (by omega), if_neg (by omega)]; exact e4
theorem jw_pay {s : jS} {b k p : Nat} (h : jw s b) (hk : k < jn s) (hp : 1 ≤ p) (hp2 : p ≤ 999) : jw (js_pay s k (nI p)) b := by
  refine ⟨h.1, fun j hj => ?_, h.2.2⟩
  have g : ∀ w, w < 5 → jm_of (jsp (js_pay s k (nI p))) j w = if j = k ∧ w = 4 then nI p else jm_of (jsp s) j w := by
    intro w hw
    show (if 5 * j + w = 5 * k + 4 then nI p else jsp s (5 * j + w)) = _
    by_cases e : j = k ∧ w = 4
    · rw [if_pos (by omega), if_pos e]
    · rw [if_neg (by omega), if_neg e]
      rfl
  obtain ⟨c, d, f', t', p', e0, e1, e2, e3, e4, b0, b1, b2, b3, b4, b5⟩ := h.2.1 j hj
  rw [g 0 (by decide), g 1 (by decide), g 2 (by decide), g 3 (by decide), g 4 (by decide), if_neg (by omega), if_neg (by omega), if_neg (by omega), if_neg (by omega)]
  by_cases e : j = k
  · exact ⟨c, d, f', t', p, e0, e1, e2, e3, by rw [if_pos ⟨e, rfl⟩], b0, b1, b2, b3, hp, hp2⟩
  · exact ⟨c, d, f', t', p', e0, e1, e2, e3, by rw [if_neg (by omega)]; exact e4, b0, b1, b2, b3, b4, b5⟩
theorem jw_law {s : jS} {b i v : Nat} (h : jw s b) (hv : v ≤ 359) : jw (js_law s i (nI v)) b := by
  refine ⟨h.1, h.2.1, h.2.2.1, fun j hj => ?_, h.2.2.2.2⟩
  show ∃ k, k ≤ 359 ∧ (if j = i then nI v else jlw s j) = nI k
  by_cases e : j = i
  · exact ⟨v, hv, if_pos e⟩
  · rw [if_neg e]
    exact h.2.2.2.1 j hj
theorem jw_ix {s : jS} {b i v : Nat} (h : jw s b) (hv : v ≤ 400) : jw (js_ix s i (nI v)) b := by
  refine ⟨h.1, h.2.1, h.2.2.1, h.2.2.2.1, fun j hj => ?_, h.2.2.2.2.2⟩
  show ∃ k, k ≤ 400 ∧ (if j = i then nI v else jix s j) = nI k
  by_cases e : j = i
  · exact ⟨v, hv, if_pos e⟩
  · rw [if_neg e]
    exact h.2.2.2.2.1 j hj
theorem jw_cr {s : jS} {b v : Nat} (h : jw s b) (hv : v ≤ 24) : jw (js_cr s (nI v)) b := ⟨h.1, h.2.1, h.2.2.1, h.2.2.2.1, h.2.2.2.2.1, ⟨v, hv, rfl⟩, h.2.2.2.2.2.2⟩
theorem jw_le {s : jS} {b v : Nat} (h : jw s b) (hv : v ≤ 60) : jw (js_le s (nI v)) b := ⟨h.1, h.2.1, h.2.2.1, h.2.2.2.1, h.2.2.2.2.1, h.2.2.2.2.2.1, ⟨v, hv, rfl⟩⟩
theorem jlt {x : Int32} {k : Nat} (hk : k < 2147483647) : x < nI (k + 1) ↔ x ≤ nI k := by
  refine ⟨fun h => Int32.not_lt.mp (fun h2 => ?_), fun h => Int32.lt_of_le_of_lt h (nI_lt (Nat.lt_succ_self k) (by omega))⟩
  by_cases hx : x < 0
  · exact absurd (Int32.lt_trans h2 hx) (nI_pos (by omega))
  · obtain ⟨j, hj, rfl⟩ := nI_of hx
    have e1 := (nI_lt_iff (by omega) (by omega)).mp h
    have e2 := (nI_lt_iff (by omega) (by omega)).mp h2
    omega
theorem jlt' {x : Int32} {k : Nat} (hk : k < 2147483647) : ¬ nI (k + 1) ≤ x ↔ x ≤ nI k := by
  rw [Int32.not_le]
  exact jlt hk
section Copies
variable {X : Nat × (Nat → Int32)} {M : Nat → Nat → Int32} {L : Nat → Nat → Int64} {G : Nat → Nat → Option Nat} {Q : am_Q}
theorem ct_copy_10_5 {s : jS} (hS : jh M 5 s) (hn : jn s ≤ 20) (hQ : ∀ M', (∀ q, q < 10 ∨ 14 < q → M' q = M q) → jh M' 10 s → Q (some none) (jm_s M' L G)) : am_T X 26 0 [some (.ref 10), some (.ref 5)] [] (jm_s M L G) (0, 0) Q := by
  obtain ⟨h1, h2, h3, h4, h5, h6, h7⟩ := hS
  refine rg_X3_copy_10_5_0 ?_
  have e1 : (if ((nI 220) / 5) < (M 5 0) then ((nI 220) / 5) else (M 5 0)) = nI (jn s) := by
    rw [h1, show (nI 220 : Int32) / 5 = nI 44 from pk_div (d := 5) (by decide) (by decide) (by decide), if_neg (nI_nlt (by omega) (by decide))]
  have e2 : nI (jn s) * 5 = nI (5 * jn s) := (pk_mul (jn s) 5).trans (congrArg nI (by omega))
  rw [e1, e2, nI_clamp (show 5 * jn s < 2147483648 by omega)]
  refine ⟨by decide, ⟨by decide, by decide, nI_pos (by omega), by omega, by omega⟩, ⟨by decide, by decide, by decide, by decide, by decide⟩, ⟨by decide, by decide, by decide, by decide, by decide⟩, ⟨by decide, by decide, by decide, by decide, by decide⟩, hQ _ (fun q hq => ?_) ?_⟩
  · funext j
    simp only [wi_m_eq, wc_m_eq]
    rw [if_neg (show ¬ q = 10 by omega), if_neg (show ¬ q = 10 by omega), if_neg (show ¬ q = 13 by omega), if_neg (show ¬ q = 12 by omega), if_neg (show ¬ q = 11 by omega), if_neg (show ¬ q = 14 by omega), if_neg (show ¬ q = 10 by omega)]
  · refine ⟨?_, fun i hi => ?_, fun i hi => ?_, fun i hi => ?_, fun i hi => ?_, ?_, ?_⟩
    · simp [wi_m_eq, wc_m_eq]
    · rw [← h2 i hi]; simp [wi_m_eq, wc_m_eq, hi]
    · rw [← h3 i hi]; simp [wi_m_eq, wc_m_eq, hi]
    · rw [← h4 i hi]; simp [wi_m_eq, wc_m_eq, hi]
    · rw [← h5 i hi]; simp [wi_m_eq, wc_m_eq, hi]
    · rw [← h6]; simp [wi_m_eq, wc_m_eq]
    · rw [← h7]; simp [wi_m_eq, wc_m_eq]
theorem ct_copy_5_10 {s : jS} (hS : jh M 10 s) (hn : jn s ≤ 20) (hQ : ∀ M', (∀ q, q < 5 ∨ 9 < q → M' q = M q) → jh M' 5 s → Q (some none) (jm_s M' L G)) : am_T X 26 0 [some (.ref 5), some (.ref 10)] [] (jm_s M L G) (0, 0) Q := by
  obtain ⟨h1, h2, h3, h4, h5, h6, h7⟩ := hS
  refine rg_X3_copy_5_10_0 ?_
  have e1 : (if ((nI 100) / 5) < (M 10 0) then ((nI 100) / 5) else (M 10 0)) = nI (jn s) := by
    rw [h1, show (nI 100 : Int32) / 5 = nI 20 from pk_div (d := 5) (by decide) (by decide) (by decide), if_neg (nI_nlt (by omega) (by decide))]
  have e2 : nI (jn s) * 5 = nI (5 * jn s) := (pk_mul (jn s) 5).trans (congrArg nI (by omega))
  rw [e1, e2, nI_clamp (show 5 * jn s < 2147483648 by omega)]
  refine ⟨by decide, ⟨by decide, by decide, nI_pos (by omega), by omega, by omega⟩, ⟨by decide, by decide, by decide, by decide, by decide⟩, ⟨by decide, by decide, by decide, by decide, by decide⟩, ⟨by decide, by decide, by decide, by decide, by decide⟩, hQ _ (fun q hq => ?_) ?_⟩
  · funext j
    simp only [wi_m_eq, wc_m_eq]
    rw [if_neg (show ¬ q = 5 by omega), if_neg (show ¬ q = 5 by omega), if_neg (show ¬ q = 8 by omega), if_neg (show ¬ q = 7 by omega), if_neg (show ¬ q = 6 by omega), if_neg (show ¬ q = 9 by omega), if_neg (show ¬ q = 5 by omega)]
  · refine ⟨?_, fun i hi => ?_, fun i hi => ?_, fun i hi => ?_, fun i hi => ?_, ?_, ?_⟩
    · simp [wi_m_eq, wc_m_eq]
    · rw [← h2 i hi]; simp [wi_m_eq, wc_m_eq, hi]
    · rw [← h3 i hi]; simp [wi_m_eq, wc_m_eq, hi]
    · rw [← h4 i hi]; simp [wi_m_eq, wc_m_eq, hi]
    · rw [← h5 i hi]; simp [wi_m_eq, wc_m_eq, hi]
    · rw [← h6]; simp [wi_m_eq, wc_m_eq]
    · rw [← h7]; simp [wi_m_eq, wc_m_eq]
theorem ct_copy_48_5 {s : jS} (hS : jh M 5 s) (hn : jn s ≤ 20) (hQ : ∀ M', (∀ q, q < 48 ∨ 52 < q → M' q = M q) → jh M' 48 s → Q (some none) (jm_s M' L G)) : am_T X 26 0 [some (.ref 48), some (.ref 5)] [] (jm_s M L G) (0, 0) Q := by
  obtain ⟨h1, h2, h3, h4, h5, h6, h7⟩ := hS
  refine rg_X3_copy_48_5_0 ?_
  have e1 : (if ((nI 100) / 5) < (M 5 0) then ((nI 100) / 5) else (M 5 0)) = nI (jn s) := by
    rw [h1, show (nI 100 : Int32) / 5 = nI 20 from pk_div (d := 5) (by decide) (by decide) (by decide), if_neg (nI_nlt (by omega) (by decide))]
  have e2 : nI (jn s) * 5 = nI (5 * jn s) := (pk_mul (jn s) 5).trans (congrArg nI (by omega))
  rw [e1, e2, nI_clamp (show 5 * jn s < 2147483648 by omega)]
  refine ⟨by decide, ⟨by decide, by decide, nI_pos (by omega), by omega, by omega⟩, ⟨by decide, by decide, by decide, by decide, by decide⟩, ⟨by decide, by decide, by decide, by decide, by decide⟩, ⟨by decide, by decide, by decide, by decide, by decide⟩, hQ _ (fun q hq => ?_) ?_⟩
  · funext j
    simp only [wi_m_eq, wc_m_eq]
    rw [if_neg (show ¬ q = 48 by omega), if_neg (show ¬ q = 48 by omega), if_neg (show ¬ q = 51 by omega), if_neg (show ¬ q = 50 by omega), if_neg (show ¬ q = 49 by omega), if_neg (show ¬ q = 52 by omega), if_neg (show ¬ q = 48 by omega)]
  · refine ⟨?_, fun i hi => ?_, fun i hi => ?_, fun i hi => ?_, fun i hi => ?_, ?_, ?_⟩
    · simp [wi_m_eq, wc_m_eq]
    · rw [← h2 i hi]; simp [wi_m_eq, wc_m_eq, hi]
    · rw [← h3 i hi]; simp [wi_m_eq, wc_m_eq, hi]
    · rw [← h4 i hi]; simp [wi_m_eq, wc_m_eq, hi]
    · rw [← h5 i hi]; simp [wi_m_eq, wc_m_eq, hi]
    · rw [← h6]; simp [wi_m_eq, wc_m_eq]
    · rw [← h7]; simp [wi_m_eq, wc_m_eq]
theorem ct_copy_5_48 {s : jS} (hS : jh M 48 s) (hn : jn s ≤ 20) (hQ : ∀ M', (∀ q, q < 5 ∨ 9 < q → M' q = M q) → jh M' 5 s → Q (some none) (jm_s M' L G)) : am_T X 26 0 [some (.ref 5), some (.ref 48)] [] (jm_s M L G) (0, 0) Q := by
  obtain ⟨h1, h2, h3, h4, h5, h6, h7⟩ := hS
  refine rg_X3_copy_5_48_0 ?_
  have e1 : (if ((nI 100) / 5) < (M 48 0) then ((nI 100) / 5) else (M 48 0)) = nI (jn s) := by
    rw [h1, show (nI 100 : Int32) / 5 = nI 20 from pk_div (d := 5) (by decide) (by decide) (by decide), if_neg (nI_nlt (by omega) (by decide))]
  have e2 : nI (jn s) * 5 = nI (5 * jn s) := (pk_mul (jn s) 5).trans (congrArg nI (by omega))
  rw [e1, e2, nI_clamp (show 5 * jn s < 2147483648 by omega)]
  refine ⟨by decide, ⟨by decide, by decide, nI_pos (by omega), by omega, by omega⟩, ⟨by decide, by decide, by decide, by decide, by decide⟩, ⟨by decide, by decide, by decide, by decide, by decide⟩, ⟨by decide, by decide, by decide, by decide, by decide⟩, hQ _ (fun q hq => ?_) ?_⟩
  · funext j
    simp only [wi_m_eq, wc_m_eq]
    rw [if_neg (show ¬ q = 5 by omega), if_neg (show ¬ q = 5 by omega), if_neg (show ¬ q = 8 by omega), if_neg (show ¬ q = 7 by omega), if_neg (show ¬ q = 6 by omega), if_neg (show ¬ q = 9 by omega), if_neg (show ¬ q = 5 by omega)]
  · refine ⟨?_, fun i hi => ?_, fun i hi => ?_, fun i hi => ?_, fun i hi => ?_, ?_, ?_⟩
    · simp [wi_m_eq, wc_m_eq]
    · rw [← h2 i hi]; simp [wi_m_eq, wc_m_eq, hi]
    · rw [← h3 i hi]; simp [wi_m_eq, wc_m_eq, hi]
    · rw [← h4 i hi]; simp [wi_m_eq, wc_m_eq, hi]
    · rw [← h5 i hi]; simp [wi_m_eq, wc_m_eq, hi]
    · rw [← h6]; simp [wi_m_eq, wc_m_eq]
    · rw [← h7]; simp [wi_m_eq, wc_m_eq]
theorem ct_copy_53_5 {s : jS} (hS : jh M 5 s) (hn : jn s ≤ 20) (hQ : ∀ M', (∀ q, q < 53 ∨ 57 < q → M' q = M q) → jh M' 53 s → Q (some none) (jm_s M' L G)) : am_T X 26 0 [some (.ref 53), some (.ref 5)] [] (jm_s M L G) (0, 0) Q := by
  obtain ⟨h1, h2, h3, h4, h5, h6, h7⟩ := hS
  refine rg_X3_copy_53_5_0 ?_
  have e1 : (if ((nI 100) / 5) < (M 5 0) then ((nI 100) / 5) else (M 5 0)) = nI (jn s) := by
    rw [h1, show (nI 100 : Int32) / 5 = nI 20 from pk_div (d := 5) (by decide) (by decide) (by decide), if_neg (nI_nlt (by omega) (by decide))]
  have e2 : nI (jn s) * 5 = nI (5 * jn s) := (pk_mul (jn s) 5).trans (congrArg nI (by omega))
  rw [e1, e2, nI_clamp (show 5 * jn s < 2147483648 by omega)]
  refine ⟨by decide, ⟨by decide, by decide, nI_pos (by omega), by omega, by omega⟩, ⟨by decide, by decide, by decide, by decide, by decide⟩, ⟨by decide, by decide, by decide, by decide, by decide⟩, ⟨by decide, by decide, by decide, by decide, by decide⟩, hQ _ (fun q hq => ?_) ?_⟩
  · funext j
    simp only [wi_m_eq, wc_m_eq]
    rw [if_neg (show ¬ q = 53 by omega), if_neg (show ¬ q = 53 by omega), if_neg (show ¬ q = 56 by omega), if_neg (show ¬ q = 55 by omega), if_neg (show ¬ q = 54 by omega), if_neg (show ¬ q = 57 by omega), if_neg (show ¬ q = 53 by omega)]
  · refine ⟨?_, fun i hi => ?_, fun i hi => ?_, fun i hi => ?_, fun i hi => ?_, ?_, ?_⟩
    · simp [wi_m_eq, wc_m_eq]
    · rw [← h2 i hi]; simp [wi_m_eq, wc_m_eq, hi]
    · rw [← h3 i hi]; simp [wi_m_eq, wc_m_eq, hi]
    · rw [← h4 i hi]; simp [wi_m_eq, wc_m_eq, hi]
    · rw [← h5 i hi]; simp [wi_m_eq, wc_m_eq, hi]
    · rw [← h6]; simp [wi_m_eq, wc_m_eq]
    · rw [← h7]; simp [wi_m_eq, wc_m_eq]
theorem ct_copy_5_53 {s : jS} (hS : jh M 53 s) (hn : jn s ≤ 20) (hQ : ∀ M', (∀ q, q < 5 ∨ 9 < q → M' q = M q) → jh M' 5 s → Q (some none) (jm_s M' L G)) : am_T X 26 0 [some (.ref 5), some (.ref 53)] [] (jm_s M L G) (0, 0) Q := by
  obtain ⟨h1, h2, h3, h4, h5, h6, h7⟩ := hS
  refine rg_X3_copy_5_53_0 ?_
  have e1 : (if ((nI 100) / 5) < (M 53 0) then ((nI 100) / 5) else (M 53 0)) = nI (jn s) := by
    rw [h1, show (nI 100 : Int32) / 5 = nI 20 from pk_div (d := 5) (by decide) (by decide) (by decide), if_neg (nI_nlt (by omega) (by decide))]
  have e2 : nI (jn s) * 5 = nI (5 * jn s) := (pk_mul (jn s) 5).trans (congrArg nI (by omega))
  rw [e1, e2, nI_clamp (show 5 * jn s < 2147483648 by omega)]
  refine ⟨by decide, ⟨by decide, by decide, nI_pos (by omega), by omega, by omega⟩, ⟨by decide, by decide, by decide, by decide, by decide⟩, ⟨by decide, by decide, by decide, by decide, by decide⟩, ⟨by decide, by decide, by decide, by decide, by decide⟩, hQ _ (fun q hq => ?_) ?_⟩
  · funext j
    simp only [wi_m_eq, wc_m_eq]
    rw [if_neg (show ¬ q = 5 by omega), if_neg (show ¬ q = 5 by omega), if_neg (show ¬ q = 8 by omega), if_neg (show ¬ q = 7 by omega), if_neg (show ¬ q = 6 by omega), if_neg (show ¬ q = 9 by omega), if_neg (show ¬ q = 5 by omega)]
  · refine ⟨?_, fun i hi => ?_, fun i hi => ?_, fun i hi => ?_, fun i hi => ?_, ?_, ?_⟩
    · simp [wi_m_eq, wc_m_eq]
    · rw [← h2 i hi]; simp [wi_m_eq, wc_m_eq, hi]
    · rw [← h3 i hi]; simp [wi_m_eq, wc_m_eq, hi]
    · rw [← h4 i hi]; simp [wi_m_eq, wc_m_eq, hi]
    · rw [← h5 i hi]; simp [wi_m_eq, wc_m_eq, hi]
    · rw [← h6]; simp [wi_m_eq, wc_m_eq]
    · rw [← h7]; simp [wi_m_eq, wc_m_eq]
theorem ct_copy_58_5 {s : jS} (hS : jh M 5 s) (hn : jn s ≤ 20) (hQ : ∀ M', (∀ q, q < 58 ∨ 62 < q → M' q = M q) → jh M' 58 s → Q (some none) (jm_s M' L G)) : am_T X 26 0 [some (.ref 58), some (.ref 5)] [] (jm_s M L G) (0, 0) Q := by
  obtain ⟨h1, h2, h3, h4, h5, h6, h7⟩ := hS
  refine rg_X3_copy_58_5_0 ?_
  have e1 : (if ((nI 100) / 5) < (M 5 0) then ((nI 100) / 5) else (M 5 0)) = nI (jn s) := by
    rw [h1, show (nI 100 : Int32) / 5 = nI 20 from pk_div (d := 5) (by decide) (by decide) (by decide), if_neg (nI_nlt (by omega) (by decide))]
  have e2 : nI (jn s) * 5 = nI (5 * jn s) := (pk_mul (jn s) 5).trans (congrArg nI (by omega))
  rw [e1, e2, nI_clamp (show 5 * jn s < 2147483648 by omega)]
  refine ⟨by decide, ⟨by decide, by decide, nI_pos (by omega), by omega, by omega⟩, ⟨by decide, by decide, by decide, by decide, by decide⟩, ⟨by decide, by decide, by decide, by decide, by decide⟩, ⟨by decide, by decide, by decide, by decide, by decide⟩, hQ _ (fun q hq => ?_) ?_⟩
  · funext j
    simp only [wi_m_eq, wc_m_eq]
    rw [if_neg (show ¬ q = 58 by omega), if_neg (show ¬ q = 58 by omega), if_neg (show ¬ q = 61 by omega), if_neg (show ¬ q = 60 by omega), if_neg (show ¬ q = 59 by omega), if_neg (show ¬ q = 62 by omega), if_neg (show ¬ q = 58 by omega)]
  · refine ⟨?_, fun i hi => ?_, fun i hi => ?_, fun i hi => ?_, fun i hi => ?_, ?_, ?_⟩
    · simp [wi_m_eq, wc_m_eq]
    · rw [← h2 i hi]; simp [wi_m_eq, wc_m_eq, hi]
    · rw [← h3 i hi]; simp [wi_m_eq, wc_m_eq, hi]
    · rw [← h4 i hi]; simp [wi_m_eq, wc_m_eq, hi]
    · rw [← h5 i hi]; simp [wi_m_eq, wc_m_eq, hi]
    · rw [← h6]; simp [wi_m_eq, wc_m_eq]
    · rw [← h7]; simp [wi_m_eq, wc_m_eq]
theorem ct_copy_5_58 {s : jS} (hS : jh M 58 s) (hn : jn s ≤ 20) (hQ : ∀ M', (∀ q, q < 5 ∨ 9 < q → M' q = M q) → jh M' 5 s → Q (some none) (jm_s M' L G)) : am_T X 26 0 [some (.ref 5), some (.ref 58)] [] (jm_s M L G) (0, 0) Q := by
  obtain ⟨h1, h2, h3, h4, h5, h6, h7⟩ := hS
  refine rg_X3_copy_5_58_0 ?_
  have e1 : (if ((nI 100) / 5) < (M 58 0) then ((nI 100) / 5) else (M 58 0)) = nI (jn s) := by
    rw [h1, show (nI 100 : Int32) / 5 = nI 20 from pk_div (d := 5) (by decide) (by decide) (by decide), if_neg (nI_nlt (by omega) (by decide))]
  have e2 : nI (jn s) * 5 = nI (5 * jn s) := (pk_mul (jn s) 5).trans (congrArg nI (by omega))
  rw [e1, e2, nI_clamp (show 5 * jn s < 2147483648 by omega)]
  refine ⟨by decide, ⟨by decide, by decide, nI_pos (by omega), by omega, by omega⟩, ⟨by decide, by decide, by decide, by decide, by decide⟩, ⟨by decide, by decide, by decide, by decide, by decide⟩, ⟨by decide, by decide, by decide, by decide, by decide⟩, hQ _ (fun q hq => ?_) ?_⟩
  · funext j
    simp only [wi_m_eq, wc_m_eq]
    rw [if_neg (show ¬ q = 5 by omega), if_neg (show ¬ q = 5 by omega), if_neg (show ¬ q = 8 by omega), if_neg (show ¬ q = 7 by omega), if_neg (show ¬ q = 6 by omega), if_neg (show ¬ q = 9 by omega), if_neg (show ¬ q = 5 by omega)]
  · refine ⟨?_, fun i hi => ?_, fun i hi => ?_, fun i hi => ?_, fun i hi => ?_, ?_, ?_⟩
    · simp [wi_m_eq, wc_m_eq]
    · rw [← h2 i hi]; simp [wi_m_eq, wc_m_eq, hi]
    · rw [← h3 i hi]; simp [wi_m_eq, wc_m_eq, hi]
    · rw [← h4 i hi]; simp [wi_m_eq, wc_m_eq, hi]
    · rw [← h5 i hi]; simp [wi_m_eq, wc_m_eq, hi]
    · rw [← h6]; simp [wi_m_eq, wc_m_eq]
    · rw [← h7]; simp [wi_m_eq, wc_m_eq]
theorem ct_copy_63_5 {s : jS} (hS : jh M 5 s) (hn : jn s ≤ 20) (hQ : ∀ M', (∀ q, q < 63 ∨ 67 < q → M' q = M q) → jh M' 63 s → Q (some none) (jm_s M' L G)) : am_T X 26 0 [some (.ref 63), some (.ref 5)] [] (jm_s M L G) (0, 0) Q := by
  obtain ⟨h1, h2, h3, h4, h5, h6, h7⟩ := hS
  refine rg_X3_copy_63_5_0 ?_
  have e1 : (if ((nI 100) / 5) < (M 5 0) then ((nI 100) / 5) else (M 5 0)) = nI (jn s) := by
    rw [h1, show (nI 100 : Int32) / 5 = nI 20 from pk_div (d := 5) (by decide) (by decide) (by decide), if_neg (nI_nlt (by omega) (by decide))]
  have e2 : nI (jn s) * 5 = nI (5 * jn s) := (pk_mul (jn s) 5).trans (congrArg nI (by omega))
  rw [e1, e2, nI_clamp (show 5 * jn s < 2147483648 by omega)]
  refine ⟨by decide, ⟨by decide, by decide, nI_pos (by omega), by omega, by omega⟩, ⟨by decide, by decide, by decide, by decide, by decide⟩, ⟨by decide, by decide, by decide, by decide, by decide⟩, ⟨by decide, by decide, by decide, by decide, by decide⟩, hQ _ (fun q hq => ?_) ?_⟩
  · funext j
    simp only [wi_m_eq, wc_m_eq]
    rw [if_neg (show ¬ q = 63 by omega), if_neg (show ¬ q = 63 by omega), if_neg (show ¬ q = 66 by omega), if_neg (show ¬ q = 65 by omega), if_neg (show ¬ q = 64 by omega), if_neg (show ¬ q = 67 by omega), if_neg (show ¬ q = 63 by omega)]
  · refine ⟨?_, fun i hi => ?_, fun i hi => ?_, fun i hi => ?_, fun i hi => ?_, ?_, ?_⟩
    · simp [wi_m_eq, wc_m_eq]
    · rw [← h2 i hi]; simp [wi_m_eq, wc_m_eq, hi]
    · rw [← h3 i hi]; simp [wi_m_eq, wc_m_eq, hi]
    · rw [← h4 i hi]; simp [wi_m_eq, wc_m_eq, hi]
    · rw [← h5 i hi]; simp [wi_m_eq, wc_m_eq, hi]
    · rw [← h6]; simp [wi_m_eq, wc_m_eq]
    · rw [← h7]; simp [wi_m_eq, wc_m_eq]
theorem ct_copy_5_63 {s : jS} (hS : jh M 63 s) (hn : jn s ≤ 20) (hQ : ∀ M', (∀ q, q < 5 ∨ 9 < q → M' q = M q) → jh M' 5 s → Q (some none) (jm_s M' L G)) : am_T X 26 0 [some (.ref 5), some (.ref 63)] [] (jm_s M L G) (0, 0) Q := by
  obtain ⟨h1, h2, h3, h4, h5, h6, h7⟩ := hS
  refine rg_X3_copy_5_63_0 ?_
  have e1 : (if ((nI 100) / 5) < (M 63 0) then ((nI 100) / 5) else (M 63 0)) = nI (jn s) := by
    rw [h1, show (nI 100 : Int32) / 5 = nI 20 from pk_div (d := 5) (by decide) (by decide) (by decide), if_neg (nI_nlt (by omega) (by decide))]
  have e2 : nI (jn s) * 5 = nI (5 * jn s) := (pk_mul (jn s) 5).trans (congrArg nI (by omega))
  rw [e1, e2, nI_clamp (show 5 * jn s < 2147483648 by omega)]
  refine ⟨by decide, ⟨by decide, by decide, nI_pos (by omega), by omega, by omega⟩, ⟨by decide, by decide, by decide, by decide, by decide⟩, ⟨by decide, by decide, by decide, by decide, by decide⟩, ⟨by decide, by decide, by decide, by decide, by decide⟩, hQ _ (fun q hq => ?_) ?_⟩
  · funext j
    simp only [wi_m_eq, wc_m_eq]
    rw [if_neg (show ¬ q = 5 by omega), if_neg (show ¬ q = 5 by omega), if_neg (show ¬ q = 8 by omega), if_neg (show ¬ q = 7 by omega), if_neg (show ¬ q = 6 by omega), if_neg (show ¬ q = 9 by omega), if_neg (show ¬ q = 5 by omega)]
  · refine ⟨?_, fun i hi => ?_, fun i hi => ?_, fun i hi => ?_, fun i hi => ?_, ?_, ?_⟩
    · simp [wi_m_eq, wc_m_eq]
    · rw [← h2 i hi]; simp [wi_m_eq, wc_m_eq, hi]
    · rw [← h3 i hi]; simp [wi_m_eq, wc_m_eq, hi]
    · rw [← h4 i hi]; simp [wi_m_eq, wc_m_eq, hi]
    · rw [← h5 i hi]; simp [wi_m_eq, wc_m_eq, hi]
    · rw [← h6]; simp [wi_m_eq, wc_m_eq]
    · rw [← h7]; simp [wi_m_eq, wc_m_eq]
theorem ct_copy_68_5 {s : jS} (hS : jh M 5 s) (hn : jn s ≤ 20) (hQ : ∀ M', (∀ q, q < 68 ∨ 72 < q → M' q = M q) → jh M' 68 s → Q (some none) (jm_s M' L G)) : am_T X 26 0 [some (.ref 68), some (.ref 5)] [] (jm_s M L G) (0, 0) Q := by
  obtain ⟨h1, h2, h3, h4, h5, h6, h7⟩ := hS
  refine rg_X3_copy_68_5_0 ?_
  have e1 : (if ((nI 100) / 5) < (M 5 0) then ((nI 100) / 5) else (M 5 0)) = nI (jn s) := by
    rw [h1, show (nI 100 : Int32) / 5 = nI 20 from pk_div (d := 5) (by decide) (by decide) (by decide), if_neg (nI_nlt (by omega) (by decide))]
  have e2 : nI (jn s) * 5 = nI (5 * jn s) := (pk_mul (jn s) 5).trans (congrArg nI (by omega))
  rw [e1, e2, nI_clamp (show 5 * jn s < 2147483648 by omega)]
  refine ⟨by decide, ⟨by decide, by decide, nI_pos (by omega), by omega, by omega⟩, ⟨by decide, by decide, by decide, by decide, by decide⟩, ⟨by decide, by decide, by decide, by decide, by decide⟩, ⟨by decide, by decide, by decide, by decide, by decide⟩, hQ _ (fun q hq => ?_) ?_⟩
  · funext j
    simp only [wi_m_eq, wc_m_eq]
    rw [if_neg (show ¬ q = 68 by omega), if_neg (show ¬ q = 68 by omega), if_neg (show ¬ q = 71 by omega), if_neg (show ¬ q = 70 by omega), if_neg (show ¬ q = 69 by omega), if_neg (show ¬ q = 72 by omega), if_neg (show ¬ q = 68 by omega)]
  · refine ⟨?_, fun i hi => ?_, fun i hi => ?_, fun i hi => ?_, fun i hi => ?_, ?_, ?_⟩
    · simp [wi_m_eq, wc_m_eq]
    · rw [← h2 i hi]; simp [wi_m_eq, wc_m_eq, hi]
    · rw [← h3 i hi]; simp [wi_m_eq, wc_m_eq, hi]
    · rw [← h4 i hi]; simp [wi_m_eq, wc_m_eq, hi]
    · rw [← h5 i hi]; simp [wi_m_eq, wc_m_eq, hi]
    · rw [← h6]; simp [wi_m_eq, wc_m_eq]
    · rw [← h7]; simp [wi_m_eq, wc_m_eq]
theorem ct_copy_5_68 {s : jS} (hS : jh M 68 s) (hn : jn s ≤ 20) (hQ : ∀ M', (∀ q, q < 5 ∨ 9 < q → M' q = M q) → jh M' 5 s → Q (some none) (jm_s M' L G)) : am_T X 26 0 [some (.ref 5), some (.ref 68)] [] (jm_s M L G) (0, 0) Q := by
  obtain ⟨h1, h2, h3, h4, h5, h6, h7⟩ := hS
  refine rg_X3_copy_5_68_0 ?_
  have e1 : (if ((nI 100) / 5) < (M 68 0) then ((nI 100) / 5) else (M 68 0)) = nI (jn s) := by
    rw [h1, show (nI 100 : Int32) / 5 = nI 20 from pk_div (d := 5) (by decide) (by decide) (by decide), if_neg (nI_nlt (by omega) (by decide))]
  have e2 : nI (jn s) * 5 = nI (5 * jn s) := (pk_mul (jn s) 5).trans (congrArg nI (by omega))
  rw [e1, e2, nI_clamp (show 5 * jn s < 2147483648 by omega)]
  refine ⟨by decide, ⟨by decide, by decide, nI_pos (by omega), by omega, by omega⟩, ⟨by decide, by decide, by decide, by decide, by decide⟩, ⟨by decide, by decide, by decide, by decide, by decide⟩, ⟨by decide, by decide, by decide, by decide, by decide⟩, hQ _ (fun q hq => ?_) ?_⟩
  · funext j
    simp only [wi_m_eq, wc_m_eq]
    rw [if_neg (show ¬ q = 5 by omega), if_neg (show ¬ q = 5 by omega), if_neg (show ¬ q = 8 by omega), if_neg (show ¬ q = 7 by omega), if_neg (show ¬ q = 6 by omega), if_neg (show ¬ q = 9 by omega), if_neg (show ¬ q = 5 by omega)]
  · refine ⟨?_, fun i hi => ?_, fun i hi => ?_, fun i hi => ?_, fun i hi => ?_, ?_, ?_⟩
    · simp [wi_m_eq, wc_m_eq]
    · rw [← h2 i hi]; simp [wi_m_eq, wc_m_eq, hi]
    · rw [← h3 i hi]; simp [wi_m_eq, wc_m_eq, hi]
    · rw [← h4 i hi]; simp [wi_m_eq, wc_m_eq, hi]
    · rw [← h5 i hi]; simp [wi_m_eq, wc_m_eq, hi]
    · rw [← h6]; simp [wi_m_eq, wc_m_eq]
    · rw [← h7]; simp [wi_m_eq, wc_m_eq]
theorem ct_copy_73_5 {s : jS} (hS : jh M 5 s) (hn : jn s ≤ 20) (hQ : ∀ M', (∀ q, q < 73 ∨ 77 < q → M' q = M q) → jh M' 73 s → Q (some none) (jm_s M' L G)) : am_T X 26 0 [some (.ref 73), some (.ref 5)] [] (jm_s M L G) (0, 0) Q := by
  obtain ⟨h1, h2, h3, h4, h5, h6, h7⟩ := hS
  refine rg_X3_copy_73_5_0 ?_
  have e1 : (if ((nI 100) / 5) < (M 5 0) then ((nI 100) / 5) else (M 5 0)) = nI (jn s) := by
    rw [h1, show (nI 100 : Int32) / 5 = nI 20 from pk_div (d := 5) (by decide) (by decide) (by decide), if_neg (nI_nlt (by omega) (by decide))]
  have e2 : nI (jn s) * 5 = nI (5 * jn s) := (pk_mul (jn s) 5).trans (congrArg nI (by omega))
  rw [e1, e2, nI_clamp (show 5 * jn s < 2147483648 by omega)]
  refine ⟨by decide, ⟨by decide, by decide, nI_pos (by omega), by omega, by omega⟩, ⟨by decide, by decide, by decide, by decide, by decide⟩, ⟨by decide, by decide, by decide, by decide, by decide⟩, ⟨by decide, by decide, by decide, by decide, by decide⟩, hQ _ (fun q hq => ?_) ?_⟩
  · funext j
    simp only [wi_m_eq, wc_m_eq]
    rw [if_neg (show ¬ q = 73 by omega), if_neg (show ¬ q = 73 by omega), if_neg (show ¬ q = 76 by omega), if_neg (show ¬ q = 75 by omega), if_neg (show ¬ q = 74 by omega), if_neg (show ¬ q = 77 by omega), if_neg (show ¬ q = 73 by omega)]
  · refine ⟨?_, fun i hi => ?_, fun i hi => ?_, fun i hi => ?_, fun i hi => ?_, ?_, ?_⟩
    · simp [wi_m_eq, wc_m_eq]
    · rw [← h2 i hi]; simp [wi_m_eq, wc_m_eq, hi]
    · rw [← h3 i hi]; simp [wi_m_eq, wc_m_eq, hi]
    · rw [← h4 i hi]; simp [wi_m_eq, wc_m_eq, hi]
    · rw [← h5 i hi]; simp [wi_m_eq, wc_m_eq, hi]
    · rw [← h6]; simp [wi_m_eq, wc_m_eq]
    · rw [← h7]; simp [wi_m_eq, wc_m_eq]
theorem ct_copy_5_73 {s : jS} (hS : jh M 73 s) (hn : jn s ≤ 20) (hQ : ∀ M', (∀ q, q < 5 ∨ 9 < q → M' q = M q) → jh M' 5 s → Q (some none) (jm_s M' L G)) : am_T X 26 0 [some (.ref 5), some (.ref 73)] [] (jm_s M L G) (0, 0) Q := by
  obtain ⟨h1, h2, h3, h4, h5, h6, h7⟩ := hS
  refine rg_X3_copy_5_73_0 ?_
  have e1 : (if ((nI 100) / 5) < (M 73 0) then ((nI 100) / 5) else (M 73 0)) = nI (jn s) := by
    rw [h1, show (nI 100 : Int32) / 5 = nI 20 from pk_div (d := 5) (by decide) (by decide) (by decide), if_neg (nI_nlt (by omega) (by decide))]
  have e2 : nI (jn s) * 5 = nI (5 * jn s) := (pk_mul (jn s) 5).trans (congrArg nI (by omega))
  rw [e1, e2, nI_clamp (show 5 * jn s < 2147483648 by omega)]
  refine ⟨by decide, ⟨by decide, by decide, nI_pos (by omega), by omega, by omega⟩, ⟨by decide, by decide, by decide, by decide, by decide⟩, ⟨by decide, by decide, by decide, by decide, by decide⟩, ⟨by decide, by decide, by decide, by decide, by decide⟩, hQ _ (fun q hq => ?_) ?_⟩
  · funext j
    simp only [wi_m_eq, wc_m_eq]
    rw [if_neg (show ¬ q = 5 by omega), if_neg (show ¬ q = 5 by omega), if_neg (show ¬ q = 8 by omega), if_neg (show ¬ q = 7 by omega), if_neg (show ¬ q = 6 by omega), if_neg (show ¬ q = 9 by omega), if_neg (show ¬ q = 5 by omega)]
  · refine ⟨?_, fun i hi => ?_, fun i hi => ?_, fun i hi => ?_, fun i hi => ?_, ?_, ?_⟩
    · simp [wi_m_eq, wc_m_eq]
    · rw [← h2 i hi]; simp [wi_m_eq, wc_m_eq, hi]
    · rw [← h3 i hi]; simp [wi_m_eq, wc_m_eq, hi]
    · rw [← h4 i hi]; simp [wi_m_eq, wc_m_eq, hi]
    · rw [← h5 i hi]; simp [wi_m_eq, wc_m_eq, hi]
    · rw [← h6]; simp [wi_m_eq, wc_m_eq]
    · rw [← h7]; simp [wi_m_eq, wc_m_eq]
theorem ct_copy_78_5 {s : jS} (hS : jh M 5 s) (hn : jn s ≤ 20) (hQ : ∀ M', (∀ q, q < 78 ∨ 82 < q → M' q = M q) → jh M' 78 s → Q (some none) (jm_s M' L G)) : am_T X 26 0 [some (.ref 78), some (.ref 5)] [] (jm_s M L G) (0, 0) Q := by
  obtain ⟨h1, h2, h3, h4, h5, h6, h7⟩ := hS
  refine rg_X3_copy_78_5_0 ?_
  have e1 : (if ((nI 100) / 5) < (M 5 0) then ((nI 100) / 5) else (M 5 0)) = nI (jn s) := by
    rw [h1, show (nI 100 : Int32) / 5 = nI 20 from pk_div (d := 5) (by decide) (by decide) (by decide), if_neg (nI_nlt (by omega) (by decide))]
  have e2 : nI (jn s) * 5 = nI (5 * jn s) := (pk_mul (jn s) 5).trans (congrArg nI (by omega))
  rw [e1, e2, nI_clamp (show 5 * jn s < 2147483648 by omega)]
  refine ⟨by decide, ⟨by decide, by decide, nI_pos (by omega), by omega, by omega⟩, ⟨by decide, by decide, by decide, by decide, by decide⟩, ⟨by decide, by decide, by decide, by decide, by decide⟩, ⟨by decide, by decide, by decide, by decide, by decide⟩, hQ _ (fun q hq => ?_) ?_⟩
  · funext j
    simp only [wi_m_eq, wc_m_eq]
    rw [if_neg (show ¬ q = 78 by omega), if_neg (show ¬ q = 78 by omega), if_neg (show ¬ q = 81 by omega), if_neg (show ¬ q = 80 by omega), if_neg (show ¬ q = 79 by omega), if_neg (show ¬ q = 82 by omega), if_neg (show ¬ q = 78 by omega)]
  · refine ⟨?_, fun i hi => ?_, fun i hi => ?_, fun i hi => ?_, fun i hi => ?_, ?_, ?_⟩
    · simp [wi_m_eq, wc_m_eq]
    · rw [← h2 i hi]; simp [wi_m_eq, wc_m_eq, hi]
    · rw [← h3 i hi]; simp [wi_m_eq, wc_m_eq, hi]
    · rw [← h4 i hi]; simp [wi_m_eq, wc_m_eq, hi]
    · rw [← h5 i hi]; simp [wi_m_eq, wc_m_eq, hi]
    · rw [← h6]; simp [wi_m_eq, wc_m_eq]
    · rw [← h7]; simp [wi_m_eq, wc_m_eq]
theorem ct_copy_5_78 {s : jS} (hS : jh M 78 s) (hn : jn s ≤ 20) (hQ : ∀ M', (∀ q, q < 5 ∨ 9 < q → M' q = M q) → jh M' 5 s → Q (some none) (jm_s M' L G)) : am_T X 26 0 [some (.ref 5), some (.ref 78)] [] (jm_s M L G) (0, 0) Q := by
  obtain ⟨h1, h2, h3, h4, h5, h6, h7⟩ := hS
  refine rg_X3_copy_5_78_0 ?_
  have e1 : (if ((nI 100) / 5) < (M 78 0) then ((nI 100) / 5) else (M 78 0)) = nI (jn s) := by
    rw [h1, show (nI 100 : Int32) / 5 = nI 20 from pk_div (d := 5) (by decide) (by decide) (by decide), if_neg (nI_nlt (by omega) (by decide))]
  have e2 : nI (jn s) * 5 = nI (5 * jn s) := (pk_mul (jn s) 5).trans (congrArg nI (by omega))
  rw [e1, e2, nI_clamp (show 5 * jn s < 2147483648 by omega)]
  refine ⟨by decide, ⟨by decide, by decide, nI_pos (by omega), by omega, by omega⟩, ⟨by decide, by decide, by decide, by decide, by decide⟩, ⟨by decide, by decide, by decide, by decide, by decide⟩, ⟨by decide, by decide, by decide, by decide, by decide⟩, hQ _ (fun q hq => ?_) ?_⟩
  · funext j
    simp only [wi_m_eq, wc_m_eq]
    rw [if_neg (show ¬ q = 5 by omega), if_neg (show ¬ q = 5 by omega), if_neg (show ¬ q = 8 by omega), if_neg (show ¬ q = 7 by omega), if_neg (show ¬ q = 6 by omega), if_neg (show ¬ q = 9 by omega), if_neg (show ¬ q = 5 by omega)]
  · refine ⟨?_, fun i hi => ?_, fun i hi => ?_, fun i hi => ?_, fun i hi => ?_, ?_, ?_⟩
    · simp [wi_m_eq, wc_m_eq]
    · rw [← h2 i hi]; simp [wi_m_eq, wc_m_eq, hi]
    · rw [← h3 i hi]; simp [wi_m_eq, wc_m_eq, hi]
    · rw [← h4 i hi]; simp [wi_m_eq, wc_m_eq, hi]
    · rw [← h5 i hi]; simp [wi_m_eq, wc_m_eq, hi]
    · rw [← h6]; simp [wi_m_eq, wc_m_eq]
    · rw [← h7]; simp [wi_m_eq, wc_m_eq]
theorem ct_copy_83_5 {s : jS} (hS : jh M 5 s) (hn : jn s ≤ 20) (hQ : ∀ M', (∀ q, q < 83 ∨ 87 < q → M' q = M q) → jh M' 83 s → Q (some none) (jm_s M' L G)) : am_T X 26 0 [some (.ref 83), some (.ref 5)] [] (jm_s M L G) (0, 0) Q := by
  obtain ⟨h1, h2, h3, h4, h5, h6, h7⟩ := hS
  refine rg_X3_copy_83_5_0 ?_
  have e1 : (if ((nI 100) / 5) < (M 5 0) then ((nI 100) / 5) else (M 5 0)) = nI (jn s) := by
    rw [h1, show (nI 100 : Int32) / 5 = nI 20 from pk_div (d := 5) (by decide) (by decide) (by decide), if_neg (nI_nlt (by omega) (by decide))]
  have e2 : nI (jn s) * 5 = nI (5 * jn s) := (pk_mul (jn s) 5).trans (congrArg nI (by omega))
  rw [e1, e2, nI_clamp (show 5 * jn s < 2147483648 by omega)]
  refine ⟨by decide, ⟨by decide, by decide, nI_pos (by omega), by omega, by omega⟩, ⟨by decide, by decide, by decide, by decide, by decide⟩, ⟨by decide, by decide, by decide, by decide, by decide⟩, ⟨by decide, by decide, by decide, by decide, by decide⟩, hQ _ (fun q hq => ?_) ?_⟩
  · funext j
    simp only [wi_m_eq, wc_m_eq]
    rw [if_neg (show ¬ q = 83 by omega), if_neg (show ¬ q = 83 by omega), if_neg (show ¬ q = 86 by omega), if_neg (show ¬ q = 85 by omega), if_neg (show ¬ q = 84 by omega), if_neg (show ¬ q = 87 by omega), if_neg (show ¬ q = 83 by omega)]
  · refine ⟨?_, fun i hi => ?_, fun i hi => ?_, fun i hi => ?_, fun i hi => ?_, ?_, ?_⟩
    · simp [wi_m_eq, wc_m_eq]
    · rw [← h2 i hi]; simp [wi_m_eq, wc_m_eq, hi]
    · rw [← h3 i hi]; simp [wi_m_eq, wc_m_eq, hi]
    · rw [← h4 i hi]; simp [wi_m_eq, wc_m_eq, hi]
    · rw [← h5 i hi]; simp [wi_m_eq, wc_m_eq, hi]
    · rw [← h6]; simp [wi_m_eq, wc_m_eq]
    · rw [← h7]; simp [wi_m_eq, wc_m_eq]
theorem ct_copy_5_83 {s : jS} (hS : jh M 83 s) (hn : jn s ≤ 20) (hQ : ∀ M', (∀ q, q < 5 ∨ 9 < q → M' q = M q) → jh M' 5 s → Q (some none) (jm_s M' L G)) : am_T X 26 0 [some (.ref 5), some (.ref 83)] [] (jm_s M L G) (0, 0) Q := by
  obtain ⟨h1, h2, h3, h4, h5, h6, h7⟩ := hS
  refine rg_X3_copy_5_83_0 ?_
  have e1 : (if ((nI 100) / 5) < (M 83 0) then ((nI 100) / 5) else (M 83 0)) = nI (jn s) := by
    rw [h1, show (nI 100 : Int32) / 5 = nI 20 from pk_div (d := 5) (by decide) (by decide) (by decide), if_neg (nI_nlt (by omega) (by decide))]
  have e2 : nI (jn s) * 5 = nI (5 * jn s) := (pk_mul (jn s) 5).trans (congrArg nI (by omega))
  rw [e1, e2, nI_clamp (show 5 * jn s < 2147483648 by omega)]
  refine ⟨by decide, ⟨by decide, by decide, nI_pos (by omega), by omega, by omega⟩, ⟨by decide, by decide, by decide, by decide, by decide⟩, ⟨by decide, by decide, by decide, by decide, by decide⟩, ⟨by decide, by decide, by decide, by decide, by decide⟩, hQ _ (fun q hq => ?_) ?_⟩
  · funext j
    simp only [wi_m_eq, wc_m_eq]
    rw [if_neg (show ¬ q = 5 by omega), if_neg (show ¬ q = 5 by omega), if_neg (show ¬ q = 8 by omega), if_neg (show ¬ q = 7 by omega), if_neg (show ¬ q = 6 by omega), if_neg (show ¬ q = 9 by omega), if_neg (show ¬ q = 5 by omega)]
  · refine ⟨?_, fun i hi => ?_, fun i hi => ?_, fun i hi => ?_, fun i hi => ?_, ?_, ?_⟩
    · simp [wi_m_eq, wc_m_eq]
    · rw [← h2 i hi]; simp [wi_m_eq, wc_m_eq, hi]
    · rw [← h3 i hi]; simp [wi_m_eq, wc_m_eq, hi]
    · rw [← h4 i hi]; simp [wi_m_eq, wc_m_eq, hi]
    · rw [← h5 i hi]; simp [wi_m_eq, wc_m_eq, hi]
    · rw [← h6]; simp [wi_m_eq, wc_m_eq]
    · rw [← h7]; simp [wi_m_eq, wc_m_eq]
theorem ct_copy_89_5 {s : jS} (hS : jh M 5 s) (hn : jn s ≤ 20) (hQ : ∀ M', (∀ q, q < 89 ∨ 93 < q → M' q = M q) → jh M' 89 s → Q (some none) (jm_s M' L G)) : am_T X 26 0 [some (.ref 89), some (.ref 5)] [] (jm_s M L G) (0, 0) Q := by
  obtain ⟨h1, h2, h3, h4, h5, h6, h7⟩ := hS
  refine rg_X3_copy_89_5_0 ?_
  have e1 : (if ((nI 100) / 5) < (M 5 0) then ((nI 100) / 5) else (M 5 0)) = nI (jn s) := by
    rw [h1, show (nI 100 : Int32) / 5 = nI 20 from pk_div (d := 5) (by decide) (by decide) (by decide), if_neg (nI_nlt (by omega) (by decide))]
  have e2 : nI (jn s) * 5 = nI (5 * jn s) := (pk_mul (jn s) 5).trans (congrArg nI (by omega))
  rw [e1, e2, nI_clamp (show 5 * jn s < 2147483648 by omega)]
  refine ⟨by decide, ⟨by decide, by decide, nI_pos (by omega), by omega, by omega⟩, ⟨by decide, by decide, by decide, by decide, by decide⟩, ⟨by decide, by decide, by decide, by decide, by decide⟩, ⟨by decide, by decide, by decide, by decide, by decide⟩, hQ _ (fun q hq => ?_) ?_⟩
  · funext j
    simp only [wi_m_eq, wc_m_eq]
    rw [if_neg (show ¬ q = 89 by omega), if_neg (show ¬ q = 89 by omega), if_neg (show ¬ q = 92 by omega), if_neg (show ¬ q = 91 by omega), if_neg (show ¬ q = 90 by omega), if_neg (show ¬ q = 93 by omega), if_neg (show ¬ q = 89 by omega)]
  · refine ⟨?_, fun i hi => ?_, fun i hi => ?_, fun i hi => ?_, fun i hi => ?_, ?_, ?_⟩
    · simp [wi_m_eq, wc_m_eq]
    · rw [← h2 i hi]; simp [wi_m_eq, wc_m_eq, hi]
    · rw [← h3 i hi]; simp [wi_m_eq, wc_m_eq, hi]
    · rw [← h4 i hi]; simp [wi_m_eq, wc_m_eq, hi]
    · rw [← h5 i hi]; simp [wi_m_eq, wc_m_eq, hi]
    · rw [← h6]; simp [wi_m_eq, wc_m_eq]
    · rw [← h7]; simp [wi_m_eq, wc_m_eq]
theorem ct_copy_5_89 {s : jS} (hS : jh M 89 s) (hn : jn s ≤ 20) (hQ : ∀ M', (∀ q, q < 5 ∨ 9 < q → M' q = M q) → jh M' 5 s → Q (some none) (jm_s M' L G)) : am_T X 26 0 [some (.ref 5), some (.ref 89)] [] (jm_s M L G) (0, 0) Q := by
  obtain ⟨h1, h2, h3, h4, h5, h6, h7⟩ := hS
  refine rg_X3_copy_5_89_0 ?_
  have e1 : (if ((nI 100) / 5) < (M 89 0) then ((nI 100) / 5) else (M 89 0)) = nI (jn s) := by
    rw [h1, show (nI 100 : Int32) / 5 = nI 20 from pk_div (d := 5) (by decide) (by decide) (by decide), if_neg (nI_nlt (by omega) (by decide))]
  have e2 : nI (jn s) * 5 = nI (5 * jn s) := (pk_mul (jn s) 5).trans (congrArg nI (by omega))
  rw [e1, e2, nI_clamp (show 5 * jn s < 2147483648 by omega)]
  refine ⟨by decide, ⟨by decide, by decide, nI_pos (by omega), by omega, by omega⟩, ⟨by decide, by decide, by decide, by decide, by decide⟩, ⟨by decide, by decide, by decide, by decide, by decide⟩, ⟨by decide, by decide, by decide, by decide, by decide⟩, hQ _ (fun q hq => ?_) ?_⟩
  · funext j
    simp only [wi_m_eq, wc_m_eq]
    rw [if_neg (show ¬ q = 5 by omega), if_neg (show ¬ q = 5 by omega), if_neg (show ¬ q = 8 by omega), if_neg (show ¬ q = 7 by omega), if_neg (show ¬ q = 6 by omega), if_neg (show ¬ q = 9 by omega), if_neg (show ¬ q = 5 by omega)]
  · refine ⟨?_, fun i hi => ?_, fun i hi => ?_, fun i hi => ?_, fun i hi => ?_, ?_, ?_⟩
    · simp [wi_m_eq, wc_m_eq]
    · rw [← h2 i hi]; simp [wi_m_eq, wc_m_eq, hi]
    · rw [← h3 i hi]; simp [wi_m_eq, wc_m_eq, hi]
    · rw [← h4 i hi]; simp [wi_m_eq, wc_m_eq, hi]
    · rw [← h5 i hi]; simp [wi_m_eq, wc_m_eq, hi]
    · rw [← h6]; simp [wi_m_eq, wc_m_eq]
    · rw [← h7]; simp [wi_m_eq, wc_m_eq]
theorem ct_copy_94_5 {s : jS} (hS : jh M 5 s) (hn : jn s ≤ 20) (hQ : ∀ M', (∀ q, q < 94 ∨ 98 < q → M' q = M q) → jh M' 94 s → Q (some none) (jm_s M' L G)) : am_T X 26 0 [some (.ref 94), some (.ref 5)] [] (jm_s M L G) (0, 0) Q := by
  obtain ⟨h1, h2, h3, h4, h5, h6, h7⟩ := hS
  refine rg_X3_copy_94_5_0 ?_
  have e1 : (if ((nI 100) / 5) < (M 5 0) then ((nI 100) / 5) else (M 5 0)) = nI (jn s) := by
    rw [h1, show (nI 100 : Int32) / 5 = nI 20 from pk_div (d := 5) (by decide) (by decide) (by decide), if_neg (nI_nlt (by omega) (by decide))]
  have e2 : nI (jn s) * 5 = nI (5 * jn s) := (pk_mul (jn s) 5).trans (congrArg nI (by omega))
  rw [e1, e2, nI_clamp (show 5 * jn s < 2147483648 by omega)]
  refine ⟨by decide, ⟨by decide, by decide, nI_pos (by omega), by omega, by omega⟩, ⟨by decide, by decide, by decide, by decide, by decide⟩, ⟨by decide, by decide, by decide, by decide, by decide⟩, ⟨by decide, by decide, by decide, by decide, by decide⟩, hQ _ (fun q hq => ?_) ?_⟩
  · funext j
    simp only [wi_m_eq, wc_m_eq]
    rw [if_neg (show ¬ q = 94 by omega), if_neg (show ¬ q = 94 by omega), if_neg (show ¬ q = 97 by omega), if_neg (show ¬ q = 96 by omega), if_neg (show ¬ q = 95 by omega), if_neg (show ¬ q = 98 by omega), if_neg (show ¬ q = 94 by omega)]
  · refine ⟨?_, fun i hi => ?_, fun i hi => ?_, fun i hi => ?_, fun i hi => ?_, ?_, ?_⟩
    · simp [wi_m_eq, wc_m_eq]
    · rw [← h2 i hi]; simp [wi_m_eq, wc_m_eq, hi]
    · rw [← h3 i hi]; simp [wi_m_eq, wc_m_eq, hi]
    · rw [← h4 i hi]; simp [wi_m_eq, wc_m_eq, hi]
    · rw [← h5 i hi]; simp [wi_m_eq, wc_m_eq, hi]
    · rw [← h6]; simp [wi_m_eq, wc_m_eq]
    · rw [← h7]; simp [wi_m_eq, wc_m_eq]
theorem ct_copy_5_94 {s : jS} (hS : jh M 94 s) (hn : jn s ≤ 20) (hQ : ∀ M', (∀ q, q < 5 ∨ 9 < q → M' q = M q) → jh M' 5 s → Q (some none) (jm_s M' L G)) : am_T X 26 0 [some (.ref 5), some (.ref 94)] [] (jm_s M L G) (0, 0) Q := by
  obtain ⟨h1, h2, h3, h4, h5, h6, h7⟩ := hS
  refine rg_X3_copy_5_94_0 ?_
  have e1 : (if ((nI 100) / 5) < (M 94 0) then ((nI 100) / 5) else (M 94 0)) = nI (jn s) := by
    rw [h1, show (nI 100 : Int32) / 5 = nI 20 from pk_div (d := 5) (by decide) (by decide) (by decide), if_neg (nI_nlt (by omega) (by decide))]
  have e2 : nI (jn s) * 5 = nI (5 * jn s) := (pk_mul (jn s) 5).trans (congrArg nI (by omega))
  rw [e1, e2, nI_clamp (show 5 * jn s < 2147483648 by omega)]
  refine ⟨by decide, ⟨by decide, by decide, nI_pos (by omega), by omega, by omega⟩, ⟨by decide, by decide, by decide, by decide, by decide⟩, ⟨by decide, by decide, by decide, by decide, by decide⟩, ⟨by decide, by decide, by decide, by decide, by decide⟩, hQ _ (fun q hq => ?_) ?_⟩
  · funext j
    simp only [wi_m_eq, wc_m_eq]
    rw [if_neg (show ¬ q = 5 by omega), if_neg (show ¬ q = 5 by omega), if_neg (show ¬ q = 8 by omega), if_neg (show ¬ q = 7 by omega), if_neg (show ¬ q = 6 by omega), if_neg (show ¬ q = 9 by omega), if_neg (show ¬ q = 5 by omega)]
  · refine ⟨?_, fun i hi => ?_, fun i hi => ?_, fun i hi => ?_, fun i hi => ?_, ?_, ?_⟩
    · simp [wi_m_eq, wc_m_eq]
    · rw [← h2 i hi]; simp [wi_m_eq, wc_m_eq, hi]
    · rw [← h3 i hi]; simp [wi_m_eq, wc_m_eq, hi]
    · rw [← h4 i hi]; simp [wi_m_eq, wc_m_eq, hi]
    · rw [← h5 i hi]; simp [wi_m_eq, wc_m_eq, hi]
    · rw [← h6]; simp [wi_m_eq, wc_m_eq]
    · rw [← h7]; simp [wi_m_eq, wc_m_eq]
end Copies
