/-! ===== sums over MONTHS and COUNTRIES (written by wip/gen/gen_math1.py) ===== -/
theorem jm_sm_01 {f : Nat → Int32} : ∀ {n : Nat}, (∀ k, k < n → f k = 0 ∨ f k = 1) → ∃ j, j ≤ n ∧ jm_sm f n = nI j
  | 0, _ => ⟨0, Nat.le_refl 0, rfl⟩
  | n + 1, h => by
    obtain ⟨j, hj, e⟩ := jm_sm_01 (n := n) (fun k hk => h k (by omega))
    rcases h n (by omega) with h0 | h1
    · exact ⟨j, by omega, by rw [jm_sm_s, e, h0, Int32.add_zero]⟩
    · exact ⟨j + 1, by omega, by rw [jm_sm_s, e, h1, nI_1]⟩
/-- numbers that are sums -/
theorem jm_sm_nat {f : Nat → Int32} {g : Nat → Nat} {b : Nat} : ∀ {n : Nat}, (∀ k, k < n → f k = nI (g k) ∧ g k ≤ b) → ∃ j, j ≤ n * b ∧ jm_sm f n = nI j ∧ ∀ k, k < n → g k ≤ j
  | 0, _ => ⟨0, Nat.zero_le _, rfl, fun k h => absurd h (Nat.not_lt_zero k)⟩
  | n + 1, h => by
    obtain ⟨j, hj, e, h2⟩ := jm_sm_nat (n := n) (fun k hk => h k (by omega))
    obtain ⟨e1, e2⟩ := h n (by omega)
    refine ⟨j + g n, ?_, by rw [jm_sm_s, e, e1, nI_add], fun k hk => ?_⟩
    · rw [Nat.succ_mul]
      omega
    · by_cases hkn : k = n
      · subst hkn
        omega
      · have := h2 k (by omega)
        omega
theorem jm_sm_swap (f : Nat → Nat → Int32) (a : Nat) : ∀ b, jm_sm (fun i => jm_sm (fun j => f i j) b) a = jm_sm (fun j => jm_sm (fun i => f i j) a) b
  | 0 => by
    show jm_sm (fun _ => (0 : Int32)) a = 0
    induction a with
    | zero => rfl
    | succ a ih => rw [jm_sm_s, ih]; rfl
  | b + 1 => by
    show jm_sm (fun i => jm_sm (fun j => f i j) b + f i b) a = jm_sm (fun j => jm_sm (fun i => f i j) a) b + jm_sm (fun i => f i b) a
    rw [← jm_sm_swap f a b, ← jm_sm_add]
theorem jm_sm_0 : ∀ n, jm_sm (fun _ => (0 : Int32)) n = 0
  | 0 => rfl
  | n + 1 => by rw [jm_sm_s, jm_sm_0 n]; rfl
/-- one of the COUNTRIES, or none -/
theorem jm_one {x v : Int32} (h : x = -1 ∨ ∃ c, c < 5 ∧ x = nI c) : jm_sm (fun c => if x = nI c then v else 0) 5 = if x = -1 then 0 else v := by
  rcases h with h | ⟨c, hc, h⟩
  · rw [if_pos h]
    have : ∀ k, k < 5 → (if x = nI k then v else 0) = 0 := by
      intro k hk
      rw [h, if_neg (fun e => jm_ne1 (by omega) e.symm)]
    rw [jm_sm_cong this]
    exact jm_sm_0 5
  · have hn : ¬ x = -1 := by
      rw [h]
      exact jm_ne1 (by omega)
    rw [if_neg hn]
    have e : ∀ k, k < 5 → (if x = nI k then v else 0) = if k = c then v else 0 := by
      intro k hk
      rw [h]
      by_cases hkc : k = c
      · rw [if_pos hkc, if_pos (by rw [hkc])]
      · rw [if_neg hkc, if_neg (jm_ne (by omega) (by omega) (fun e => hkc e.symm))]
    rw [jm_sm_cong e]
    have : c = 0 ∨ c = 1 ∨ c = 2 ∨ c = 3 ∨ c = 4 := by omega
    rcases this with r | r | r | r | r <;> subst r <;> simp [jm_sm, Int32.add_zero, Int32.zero_add]
theorem jm_cg_z {cr : Int32} {gf gl ld wg : Nat → Int32} (h : ∀ m, m < 360 → ld m = -1 → wg m = 0) : ∀ {c : Nat}, (∀ g, g < c → ∃ a b : Nat, gf g = nI (a + 1) ∧ gl g = nI b ∧ a + 1 + b ≤ 360) → ∀ m, m < 360 → (jm_cg cr gf gl ld wg c).1 m = -1 → (jm_cg cr gf gl ld wg c).2 m = 0
  | 0, _ => h
  | c + 1, hg => by
    have ih := jm_cg_z (cr := cr) h (c := c) (fun g hc => hg g (by omega))
    obtain ⟨a, b, ha, hb, hab⟩ := hg c (by omega)
    by_cases h1 : cr < gl c
    · have e : jm_cg cr gf gl ld wg (c + 1) = jm_cg cr gf gl ld wg c := by
        rw [jm_cg, if_pos h1]
      rw [e]
      exact ih
    · rw [jm_cg_s h1 ha hb hab]
      intro m hm
      unfold jm_cr
      by_cases h2 : a + 1 ≤ m ∧ m < a + 1 + b
      · have := ih a (by omega)
        simp only [if_pos h2]
        intro e
        rw [this e]
        decide
      · simp only [if_neg h2]
        exact ih m hm
theorem jc_z {s : jS} {b : Nat} (h : jw s b) (hb : b ≤ 64) {m : Nat} (hm : m < 360) (e : jc_ld s m = -1) : jc_wg s m = 0 := by
  obtain ⟨h1, h2, h3⟩ := h
  refine jm_cg_z ?_ (fun g hg => (jm_fg_ok (jm_B (jsp s) (jod s) (jn s)) 360 (Nat.le_refl _)).2 g hg) m hm e
  intro m hm
  show jm_ld (jsp s) (jm_st (jsp s) (jod s) m (jn s)) = -1 → jm_wg (jsp s) (jix s) (jm_st (jsp s) (jod s) m (jn s)) m = 0
  rcases jm_st_by (od := jod s) h2 (show jn s ≤ 64 by omega) m (jn s) (Nat.le_refl _) with ⟨e1, e2⟩ | ⟨b', hb', e1, e2⟩
  · intro _
    unfold jm_wg
    rw [if_pos e1]
  · rw [e1, (jm_ld_b (ix := jix s) h2 (by omega) hb' m).1]
    obtain ⟨c, d, f, t, p, e0, -, -, -, -, b0, -⟩ := h2 b' hb'
    rw [e0]
    exact fun h => absurd h (jm_ne1 (by omega))
/-- a COUNTED MONTH has a land -/
theorem jc_cov {s : jS} {b : Nat} (h : jw s b) (hb : b ≤ 64) {m : Nat} (hm : m < 360) (e : jc_by s m ≠ -1) : jc_ld s m ≠ -1 := by
  obtain ⟨h1, h2, h3⟩ := h
  have hc := (jm_cg_cov (jc_by s) (jcr s) (fun m => jm_ld (jsp s) (jm_st (jsp s) (jod s) m (jn s))) (fun m => jm_wg (jsp s) (jix s) (jm_st (jsp s) (jod s) m (jn s)) m) _ (Nat.le_refl _) m hm e).1
  have hc2 : jc_ld s m = jm_ld (jsp s) (jm_st (jsp s) (jod s) m (jn s)) := hc
  rw [hc2]
  rcases jm_st_by (od := jod s) h2 (show jn s ≤ 64 by omega) m (jn s) (Nat.le_refl _) with ⟨e1, e2⟩ | ⟨b', hb', e1, e2⟩
  · exact absurd e2 e
  · rw [e1, (jm_ld_b (ix := jix s) h2 (by omega) hb' m).1]
    obtain ⟨c, d, f, t, p, e0, -, -, -, -, b0, -⟩ := h2 b' hb'
    rw [e0]
    exact jm_ne1 (by omega)
theorem jc_so_0 {s : jS} {b : Nat} (h : jw s b) (hb : b ≤ 64) {m : Nat} (hm : m < 360) : jc_so s m ≤ 0 ↔ jc_ld s m = -1 := by
  have hc := jc_cov h hb hm
  unfold jc_so
  by_cases h1 : jc_by s m = -1
  · rw [if_pos h1]
    by_cases h2 : jc_ld s m = -1
    · rw [if_pos h2]
      exact ⟨fun _ => h2, fun _ => by decide⟩
    · rw [if_neg h2]
      exact ⟨fun h => absurd h (by decide), fun h => absurd h h2⟩
  · rw [if_neg h1]
    exact ⟨fun h => absurd h (by decide), fun h => absurd h (hc h1)⟩
/-- the joined MONTHS, one by one -/
theorem jc_J_eq {s : jS} {b : Nat} (h : jw s b) (hb : b ≤ 64) : jc_J s = jm_sm (fun m => if jc_ld s m = -1 then 0 else 1) 360 := by
  show jm_sm (fun c => jm_sm (fun m => if jc_ld s m = nI c then 1 else 0) 360) 5 = _
  rw [jm_sm_swap]
  exact jm_sm_cong (fun m hm => jm_one (jc_la h hb m hm))
theorem jc_T_eq {s : jS} {b : Nat} (h : jw s b) (hb : b ≤ 64) : jm_sm (jc_os s) 5 = jm_sm (jc_wg s) 360 := by
  show jm_sm (fun c => jm_sm (fun m => if jc_ld s m = nI c then jc_wg s m else 0) 360) 5 = _
  rw [jm_sm_swap]
  refine jm_sm_cong (fun m hm => ?_)
  rw [jm_one (jc_la h hb m hm)]
  by_cases e : jc_ld s m = -1
  · rw [if_pos e, jc_z h hb hm e]
  · rw [if_neg e]
theorem jc_ow_nat (s : jS) (c : Nat) : ∃ j, j ≤ 360 ∧ jc_ow s c = nI j := jm_sm_01 (fun k hk => by
  by_cases h : jc_ld s k = nI c
  · exact Or.inr (if_pos h)
  · exact Or.inl (if_neg h))
theorem jc_J_nat {s : jS} : ∃ j, j ≤ 1800 ∧ jc_J s = nI j ∧ ∀ c, c < 5 → ∃ i, i ≤ j ∧ jc_ow s c = nI i := by
  obtain ⟨j, h1, h2, h3⟩ := jm_sm_nat (f := jc_ow s) (g := fun c => (jc_ow s c).toNatClampNeg) (b := 360) (n := 5) (fun k hk => by
    obtain ⟨i, hi, e⟩ := jc_ow_nat s k
    refine ⟨?_, ?_⟩
    · rw [e, nI_clamp (by omega)]
    · rw [e, nI_clamp (by omega)]
      exact hi)
  refine ⟨j, h1, h2, fun c hc => ?_⟩
  obtain ⟨i, hi, e⟩ := jc_ow_nat s c
  have := h3 c hc
  rw [e, nI_clamp (by omega)] at this
  exact ⟨i, this, e⟩
theorem nI_le0 {j : Nat} (h : j < 2147483648) : nI j ≤ 0 ↔ j = 0 := by
  have := nI_le_iff h (show 0 < 2147483648 by decide)
  rw [show (0 : Int32) = nI 0 from rfl, this]
  omega
theorem nI_eq0 {j : Nat} (h : j < 2147483648) : nI j = 0 ↔ j = 0 := by
  have := nI_eq_iff h (show 0 < 2147483648 by decide)
  rw [show (0 : Int32) = nI 0 from rfl, this]
theorem jm_bm_nat {v : Int32} {j : Nat} (h : j < 2147483648) : jm_bm v (nI j) = if nI j = 0 then 0 else v / nI j := by
  unfold jm_bm
  by_cases e : j = 0
  · rw [if_pos ((nI_le0 h).mpr e), if_pos ((nI_eq0 h).mpr e)]
  · rw [if_neg (fun q => e ((nI_le0 h).mp q)), if_neg (fun q => e ((nI_eq0 h).mp q))]
/-- who may bear -/
theorem jm_may {x le : Int32} : x < (if 1 < le then le else 1) ↔ (x < le ∨ x ≤ 0) := by
  have h1 : (x < le ∨ x ≤ 0) ↔ (x.toInt < le.toInt ∨ x.toInt ≤ 0) := by
    rw [Int32.lt_iff_toInt_lt, Int32.le_iff_toInt_le]
    rfl
  rw [h1]
  by_cases h : 1 < le
  · rw [if_pos h, Int32.lt_iff_toInt_lt]
    have h2 : (1 : Int) < le.toInt := Int32.lt_iff_toInt_lt.mp h
    omega
  · rw [if_neg h, Int32.lt_iff_toInt_lt]
    have h2 : ¬ (1 : Int) < le.toInt := fun e => h (Int32.lt_iff_toInt_lt.mpr e)
    show x.toInt < 1 ↔ _
    omega
theorem jm_br_may (ow : Nat → Int32) (le : Int32) : ∀ k c, c < 5 → k ≤ 5 → jm_br ow le k = nI c → ¬ (ow c < le ∨ ow c ≤ 0)
  | 0, c, hc, _, e => absurd e.symm (jm_ne1 (by omega))
  | k + 1, c, hc, hk, e => by
    have ih := jm_br_may ow le k c hc (by omega)
    unfold jm_br at e
    by_cases h1 : ow k < (if 1 < le then le else 1)
    · rw [if_pos h1] at e
      exact ih e
    have h1' : ¬ (ow k < le ∨ ow k ≤ 0) := fun q => h1 (jm_may.mpr q)
    rw [if_neg h1] at e
    have hkc : nI k = nI c → ¬ (ow c < le ∨ ow c ≤ 0) := by
      intro q
      rw [← (nI_eq_iff (show k < 2147483648 by omega) (show c < 2147483648 by omega)).mp q]
      exact h1'
    by_cases h2 : jm_br ow le k = -1
    · rw [if_pos h2] at e
      exact hkc e
    rw [if_neg h2] at e
    by_cases h3 : ow k ≤ ow (jm_br ow le k).toNatClampNeg
    · rw [if_pos h3] at e
      exact ih e
    · rw [if_neg h3] at e
      exact hkc e
/-- what is lent, as the reference adds it up -/
def jr_lent (s : jS) : Int32 := jm_sm (fun c => if jle s ≤ jc_ow s c then 0 else jc_ow s c) 5
theorem jc_lt_y {s : jS} (h : jc_br s ≠ -1) : jc_lt s = jr_lent s := by
  have g : ∀ n, jm_le (jc_ow s) (jle s) (jc_br s) n = jm_sm (fun c => if jle s ≤ jc_ow s c then 0 else jc_ow s c) n := by
    intro n
    induction n with
    | zero => rfl
    | succ n ih =>
      rw [jm_le, jm_sm_s, ih, if_neg h]
  exact g 5
theorem jc_lt_n {s : jS} (h : jc_br s = -1) : jc_lt s = 0 := by
  have g : ∀ n, jm_le (jc_ow s) (jle s) (jc_br s) n = 0 := by
    intro n
    induction n with
    | zero => rfl
    | succ n ih =>
      rw [jm_le, ih, if_pos h, ite_self]
      rfl
  exact g 5
theorem jr_lent_nat (s : jS) : ∃ j, j ≤ 1800 ∧ jr_lent s = nI j ∧ (j ≠ 0 → ∃ c, c < 5 ∧ jc_ow s c ≠ 0) := by
  obtain ⟨j, h1, h2, h3⟩ := jm_sm_nat (f := fun c => if jle s ≤ jc_ow s c then 0 else jc_ow s c) (g := fun c => if jle s ≤ jc_ow s c then 0 else (jc_ow s c).toNatClampNeg) (b := 360) (n := 5) (fun k hk => by
    obtain ⟨i, hi, e⟩ := jc_ow_nat s k
    by_cases h : jle s ≤ jc_ow s k
    · simp only [if_pos h]
      exact ⟨rfl, by omega⟩
    · simp only [if_neg h]
      rw [e, nI_clamp (by omega)]
      exact ⟨rfl, hi⟩)
  refine ⟨j, h1, h2, fun hj => ?_⟩
  apply Classical.byContradiction
  intro hno
  have hz : ∀ c, c < 5 → jc_ow s c = 0 := fun c hc => Classical.byContradiction (fun e => hno ⟨c, hc, e⟩)
  have : jr_lent s = 0 := by
    unfold jr_lent
    rw [jm_sm_cong (g := fun _ => 0) (fun c hc => by rw [hz c hc, ite_self])]
    exact jm_sm_0 5
  have h4 : nI j = 0 := h2.symm.trans this
  exact hj ((nI_eq0 (by omega)).mp h4)
theorem jc_ba_eq {s : jS} {c : Nat} (hc : c < 5) : jc_ba s c = if jle s ≤ jc_ow s c then (if nI c = jc_br s then jc_ow s c + jr_lent s else jc_ow s c) else 0 := by
  unfold jc_ba jm_ba
  by_cases h1 : jc_br s = nI c
  · have hm := jm_br_may (jc_ow s) (jle s) 5 c hc (Nat.le_refl _) h1
    have hl : jle s ≤ jc_ow s c := Int32.not_lt.mp (fun e => hm (Or.inl e))
    have hne : jc_br s ≠ -1 := by
      rw [h1]
      exact jm_ne1 (by omega)
    rw [if_pos h1, if_pos hl, if_pos hl, if_pos h1.symm, jc_lt_y hne]
  · rw [if_neg h1]
    by_cases hl : jle s ≤ jc_ow s c
    · rw [if_pos hl, if_pos hl, if_neg (fun e => h1 e.symm)]
    · rw [if_neg hl, if_neg hl]
theorem jc_ba_nat {s : jS} {c : Nat} (hc : c < 5) : ∃ j, j ≤ 2160 ∧ jc_ba s c = nI j ∧ (j ≠ 0 → jc_J s ≠ 0) := by
  obtain ⟨J, hJ1, hJ2, hJ3⟩ := jc_J_nat (s := s)
  have hpos : ∀ c', c' < 5 → jc_ow s c' ≠ 0 → jc_J s ≠ 0 := by
    intro c' hc' h e
    obtain ⟨i, hi, ei⟩ := hJ3 c' hc'
    rw [hJ2] at e
    have := (nI_eq0 (show J < 2147483648 by omega)).mp e
    apply h
    rw [ei]
    have : i = 0 := by omega
    rw [this]
    rfl
  obtain ⟨o, ho, eo⟩ := jc_ow_nat s c
  obtain ⟨l, hl, el, hl2⟩ := jr_lent_nat s
  rw [jc_ba_eq hc]
  by_cases h1 : jle s ≤ jc_ow s c
  · rw [if_pos h1]
    have hoz : o ≠ 0 → jc_J s ≠ 0 := by
      intro h
      refine hpos c hc ?_
      rw [eo]
      exact fun e => h ((nI_eq0 (by omega)).mp e)
    by_cases h2 : nI c = jc_br s
    · rw [if_pos h2, eo, el, nI_add]
      refine ⟨o + l, by omega, rfl, fun h => ?_⟩
      by_cases hz : o = 0
      · obtain ⟨c', hc', h'⟩ := hl2 (by omega)
        exact hpos c' hc' h'
      · exact hoz hz
    · rw [if_neg h2]
      exact ⟨o, by omega, eo, hoz⟩
  · rw [if_neg h1]
    exact ⟨0, by omega, rfl, fun h => absurd rfl h⟩
def jc_c2 (s : jS) (c : Nat) : Int32 := jm_sm (fun m => if jc_so s m = 2 then (if jc_ld s m = nI c then 1 else 0) else 0) 360
theorem jc_cn_eq (s : jS) (c : Nat) : jm_sm (fun m => if jc_so s m = 1 then (if jc_ld s m = nI c then 1 else 0) else 0) 360 = jc_cn s c := by
  refine jm_sm_cong (fun m hm => ?_)
  unfold jc_so
  by_cases h1 : jc_by s m = -1
  · rw [if_pos h1]
    have h3 : ¬ ((if jc_ld s m = -1 then (0 : Int32) else 2) = 1) := by
      split <;> decide
    rw [if_neg h3, if_pos h1, ite_self]
  · rw [if_neg h1, if_pos rfl, if_neg h1]
theorem jc_ow_add (s : jS) {b : Nat} (h : jw s b) (hb : b ≤ 64) {c : Nat} (hc : c < 5) : jc_cn s c + jc_c2 s c = jc_ow s c := by
  rw [← jc_cn_eq]
  unfold jc_c2 jc_ow jm_ow
  rw [← jm_sm_add]
  refine jm_sm_cong (fun m hm => ?_)
  have h0 := jc_so_0 h hb hm
  by_cases hl : jc_ld s m = nI c
  · have hne : ¬ jc_ld s m = -1 := by
      rw [hl]
      exact jm_ne1 (by omega)
    unfold jc_so
    rw [if_pos hl, if_neg hne]
    by_cases h1 : jc_by s m = -1
    · rw [if_pos h1]
      decide
    · rw [if_neg h1]
      decide
  · rw [if_neg hl, ite_self, ite_self]
    rfl
theorem jc_c2_eq (s : jS) {b : Nat} (h : jw s b) (hb : b ≤ 64) {c : Nat} (hc : c < 5) : jc_c2 s c = jc_ow s c - jc_cn s c := by
  rw [← jc_ow_add s h hb hc, Int32.add_comm, Int32.add_sub_cancel]
