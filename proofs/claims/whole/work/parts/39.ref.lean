/-! ===== the reference: SPANS and MONTHS (written by wip/gen/gen_ref.py) ===== -/
theorem nI_eq_iff {a b : Nat} (ha : a < 2147483648) (hb : b < 2147483648) : nI a = nI b ↔ a = b := ⟨fun e => Decidable.byContradiction (fun h => jm_ne ha hb h e), fun e => by rw [e]⟩
theorem nI_le_iff {a b : Nat} (ha : a < 2147483648) (hb : b < 2147483648) : nI a ≤ nI b ↔ a ≤ b := ⟨fun h => Decidable.byContradiction (fun h2 => nI_ge (Nat.lt_of_not_le h2) ha h), fun h => nI_le h hb⟩
theorem nI_lt_iff {a b : Nat} (ha : a < 2147483648) (hb : b < 2147483648) : nI a < nI b ↔ a < b := ⟨fun h => Decidable.byContradiction (fun h2 => nI_nlt (Nat.le_of_not_lt h2) ha h), fun h => nI_lt h hb⟩
def jb (b : Bool) : Int32 := if b = true then 1 else 0
theorem jb_01 (b : Bool) : jb b = 0 ∨ jb b = 1 := by
  cases b
  · exact Or.inl rfl
  · exact Or.inr rfl
theorem jb_y {b : Bool} (h : b = true) : jb b = 1 := by rw [h]; rfl
theorem jb_n {b : Bool} (h : b = false) : jb b = 0 := by rw [h]; rfl
/-- a row of the reference holds the state -/
def jR (f : Nat → Int32) (s : jS) : Prop := f 0 = nI (jn s) ∧ (∀ i, i < 5 * jn s → f (1 + i) = jsp s i) ∧ (∀ i, i < 20 → f (221 + i) = jlw s i) ∧ (∀ i, i < 4 → f (241 + i) = jod s i) ∧ f 245 = jcr s ∧ f 246 = jle s ∧ ∀ i, i < 30 → f (247 + i) = jix s i
theorem jx_case (b : Nat) (hb : b < 2147483648) (x : Int32) : (x < 0 ∨ nI b ≤ x) ∨ ∃ k, k < b ∧ x = nI k := by
  by_cases h : x < 0
  · exact Or.inl (Or.inl h)
  · obtain ⟨j, hj, e⟩ := nI_of h
    by_cases hjb : j < b
    · exact Or.inr ⟨j, hjb, e⟩
    · refine Or.inl (Or.inr ?_)
      rw [e]
      exact nI_le (by omega) hj
theorem rp_X6_in_0 {X : Nat × (Nat → Int32)} {M : Nat → Nat → Int32} {L : Nat → Nat → Int64} {G : Nat → Nat → Option Nat} {Q : am_Q} {x0 : Int32} {x1 : Int32} {x2 : Int32}  (h : ((x0 < x1 → (Q (some (some (.int 0))) (jm_s M L G))) ∧ (¬ x0 < x1 → ((x2 < x0 → (Q (some (some (.int 0))) (jm_s M L G))) ∧ (¬ x2 < x0 → (Q (some (some (.int 1))) (jm_s M L G))))))) : am_T X 124 0 [some (.int x0), some (.int x1), some (.int x2)] [] (jm_s M L G) (0, 0) Q := rg_X6_in_0 (⟨fun e0 => ⟨(Or.inl rfl), (h.1 e0)⟩, fun e0 => ⟨fun e1 => ⟨(Or.inl rfl), ((h.2 e0).1 e1)⟩, fun e1 => ⟨(Or.inr rfl), ((h.2 e0).2 e1)⟩⟩⟩)
theorem rp_X6_isBetter_101_21 {X : Nat × (Nat → Int32)} {M : Nat → Nat → Int32} {L : Nat → Nat → Int64} {G : Nat → Nat → Option Nat} {Q : am_Q} {x1 : Int32} {x2 : Int32} {x3 : Int32} {s0 : Int32}  (h : ((x3 = s0 → (∃ K : Int32 → am_S → Prop, am_T X 127 0 [some (.ref 101), some (.int x1), some (.int 4)] [] (jm_s M L G) (0, 0) (am_qi K) ∧ ∀ v σ', K v σ' → am_T X 149 47 [some (.ref 101), some (.int x1), some (.int x2), none, none] [(.int v)] σ' (0, 0) Q)) ∧ (¬ x3 = s0 → ((s0 ≤ x3 → (Q (some (some (.int 0))) (jm_s M L G))) ∧ (¬ s0 ≤ x3 → (Q (some (some (.int 1))) (jm_s M L G))))))) : am_T X 149 21 [some (.ref 101), some (.int x1), some (.int x2), some (.int x3), none] [(.int s0)] (jm_s M L G) (0, 0) Q := rg_X6_isBetter_101_21 (⟨fun e0 => (h.1 e0), fun e0 => ⟨fun e1 => ⟨(Or.inl rfl), ((h.2 e0).1 e1)⟩, fun e1 => ⟨(Or.inr rfl), ((h.2 e0).2 e1)⟩⟩⟩)
theorem rp_X6_isBetter_101_68 {X : Nat × (Nat → Int32)} {M : Nat → Nat → Int32} {L : Nat → Nat → Int64} {G : Nat → Nat → Option Nat} {Q : am_Q} {s0 : Int32} {s1 : Int32}  (h : ((s0 ≤ s1 → (Q (some (some (.int 0))) (jm_s M L G))) ∧ (¬ s0 ≤ s1 → (Q (some (some (.int 1))) (jm_s M L G))))) : am_T X 149 68 [none, none, none, none, none] [(.int s1), (.int s0)] (jm_s M L G) (0, 0) Q := rg_X6_isBetter_101_68 (⟨fun e0 => ⟨(Or.inl rfl), (h.1 e0)⟩, fun e0 => ⟨(Or.inr rfl), (h.2 e0)⟩⟩)
theorem rp_X6_isBetter_101_89 {X : Nat × (Nat → Int32)} {M : Nat → Nat → Int32} {L : Nat → Nat → Int64} {G : Nat → Nat → Option Nat} {Q : am_Q} {s0 : Int32} {s1 : Int32}  (h : ((s1 ≤ s0 → (Q (some (some (.int 0))) (jm_s M L G))) ∧ (¬ s1 ≤ s0 → (Q (some (some (.int 1))) (jm_s M L G))))) : am_T X 149 89 [none, none, none, none, none] [(.int s1), (.int s0)] (jm_s M L G) (0, 0) Q := rg_X6_isBetter_101_89 (⟨fun e0 => ⟨(Or.inl rfl), (h.1 e0)⟩, fun e0 => ⟨(Or.inr rfl), (h.2 e0)⟩⟩)
section Ref0
variable {X : Nat × (Nat → Int32)} {M : Nat → Nat → Int32} {L : Nat → Nat → Int64} {G : Nat → Nat → Option Nat} {Q : am_Q}
theorem ct_in {x lo hi : Int32} (hQ : Q (some (some (.int (jb (decide (lo ≤ x ∧ x ≤ hi)))))) (jm_s M L G)) : am_T X 124 0 [some (.int x), some (.int lo), some (.int hi)] [] (jm_s M L G) (0, 0) Q := by
  refine rp_X6_in_0 ⟨fun h => ?_, fun h => ⟨fun h2 => ?_, fun h2 => ?_⟩⟩
  · rw [jb_n (decide_eq_false (fun e => Int32.not_lt.mpr e.1 h))] at hQ
    exact hQ
  · rw [jb_n (decide_eq_false (fun e => Int32.not_lt.mpr e.2 h2))] at hQ
    exact hQ
  · rw [jb_y (decide_eq_true ⟨Int32.not_lt.mp h, Int32.not_lt.mp h2⟩)] at hQ
    exact hQ
theorem ct_risCountry {x : Int32} (hQ : Q (some (some (.int (jb (decide (0 ≤ x ∧ x ≤ 4)))))) (jm_s M L G)) : am_T X 128 0 [some (.int x)] [] (jm_s M L G) (0, 0) Q :=
  rg_X6_isCountry_0 (cl_i (fun _ h => ct_in h) (rg_X6_isCountry_6 ⟨jb_01 _, hQ⟩))
theorem ct_risMonth {x : Int32} (hQ : Q (some (some (.int (jb (decide (0 ≤ x ∧ x ≤ 359)))))) (jm_s M L G)) : am_T X 129 0 [some (.int x)] [] (jm_s M L G) (0, 0) Q :=
  rg_X6_isMonth_0 (cl_i (fun _ h => ct_in h) (rg_X6_isMonth_8 ⟨jb_01 _, hQ⟩))
theorem ct_isSpan {x : Int32} (hQ : Q (some (some (.int (jb (decide (0 ≤ x ∧ x ≤ M 102 0 - 1)))))) (jm_s M L G)) : am_T X 130 0 [some (.ref 101), some (.int x)] [] (jm_s M L G) (0, 0) Q :=
  rg_X6_isSpan_101_0 ⟨vp_in_nI (show 0 < 277 by decide) (by decide), cl_i (fun _ h => ct_in h) (rg_X6_isSpan_101_13 ⟨jb_01 _, hQ⟩)⟩
theorem ct_of {k w : Nat} (hk : 5 * k + w < 276) (hQ : Q (some (some (.int (M 102 (1 + (5 * k + w)))))) (jm_s M L G)) : am_T X 127 0 [some (.ref 101), some (.int (nI k)), some (.int (nI w))] [] (jm_s M L G) (0, 0) Q := by
  have e : (1 + 5 * nI k) + nI w = nI (1 + (5 * k + w)) := by
    rw [show (5 : Int32) * nI k = nI (5 * k) from pk_mul 5 k, show (1 : Int32) + nI (5 * k) = nI (1 + 5 * k) from nI_add 1 (5 * k), nI_add, Nat.add_assoc]
  refine rg_X6_of_101_0 ?_
  rw [e, nI_clamp (by omega)]
  exact ⟨vp_in_nI (by omega) (by decide), hQ⟩
theorem ct_of_s {s : jS} (hR : jR (M 102) s) (hn : jn s ≤ 44) {k w : Nat} (hk : k < jn s) (hw : w < 5) (hQ : Q (some (some (.int (jm_of (jsp s) k w)))) (jm_s M L G)) : am_T X 127 0 [some (.ref 101), some (.int (nI k)), some (.int (nI w))] [] (jm_s M L G) (0, 0) Q := by
  refine ct_of (by omega) ?_
  rw [hR.2.1 (5 * k + w) (by omega)]
  exact hQ
theorem ct_rplaceOf {s : jS} (hR : jR (M 102) s) {x : Int32} (hx : ∃ i, i < 4 ∧ jod s i = x) (hQ : Q (some (some (.int (nI (jm_pl (jod s) x 4 0))))) (jm_s M L G)) : am_T X 148 0 [some (.ref 101), some (.int x), none] [] (jm_s M L G) (0, 0) Q := by
  refine rg_X6_placeOf_101_0 ?_
  obtain ⟨i, hi, ex⟩ := hx
  have h : ∀ n k, k + n = 4 → k ≤ i → Q (some (some (.int (nI (jm_pl (jod s) x n k))))) (jm_s M L G) → am_T X 148 2 [some (.ref 101), some (.int x), some (.int (nI k))] [] (jm_s M L G) (0, 0) Q := by
    intro n
    induction n with
    | zero => intro k e h; omega
    | succ n ih =>
      intro k e hki hq
      have hk : k < 4 := by omega
      have e1 : (241 : Int32) + nI k = nI (241 + k) := nI_add 241 k
      unfold jm_pl at hq
      refine rg_X6_placeOf_101_2 ?_
      rw [e1, nI_clamp (by omega), hR.2.2.2.1 k hk, nI_1]
      refine ⟨vp_in_nI (by omega) (by decide), fun h => ?_, fun h => ?_⟩
      · rw [if_pos h] at hq
        exact hq
      · rw [if_neg h] at hq
        refine ih (k + 1) (by omega) ?_ hq
        rcases Nat.lt_or_ge k i with h2 | h2
        · exact h2
        · have : k = i := by omega
          subst this
          exact absurd ex h
  exact h 4 0 rfl (Nat.zero_le i) hQ
theorem ct_isBetter {s : jS} (hR : jR (M 102) s) (hw : jw s 44) {k b : Nat} (hk : k < jn s) (hb : b < k) (hQ : Q (some (some (.int (jb (decide (jm_sd (jsp s) (jod s) k < jm_sd (jsp s) (jod s) b)))))) (jm_s M L G)) : am_T X 149 0 [some (.ref 101), some (.int (nI k)), some (.int (nI b)), none, none] [] (jm_s M L G) (0, 0) Q := by
  obtain ⟨hn, hok, hod⟩ := hw
  obtain ⟨c, d, f, t, p, e0, e1, e2, e3, e4, b0, b1, b2, b3, b4, b5⟩ := hok k hk
  obtain ⟨c', d', f', t', p', e0', e1', e2', e3', e4', b0', b1', b2', b3', b4', b5'⟩ := hok b (by omega)
  have hs := jm_sd_eq (od := jod s) e0 e4 b5
  have hs' := jm_sd_eq (od := jod s) e0' e4' b5'
  have l1 := jm_sn_lt (od := jod s) (p := p) (x := jm_of (jsp s) k 1) b0 (show k < 64 by omega)
  have l2 := jm_sn_lt (od := jod s) (p := p') (x := jm_of (jsp s) b 1) b0' (show b < 64 by omega)
  have key : jm_sd (jsp s) (jod s) k < jm_sd (jsp s) (jod s) b ↔ jm_sn (jod s) c p k (jm_of (jsp s) k 1) < jm_sn (jod s) c' p' b (jm_of (jsp s) b 1) := by
    rw [hs, hs']
    exact nI_lt_iff (by omega) (by omega)
  have hq0 : ¬ jm_sn (jod s) c p k (jm_of (jsp s) k 1) < jm_sn (jod s) c' p' b (jm_of (jsp s) b 1) → Q (some (some (.int 0))) (jm_s M L G) := by
    intro h
    rw [jb_n (decide_eq_false (fun e => h (key.mp e)))] at hQ
    exact hQ
  have hq1 : jm_sn (jod s) c p k (jm_of (jsp s) k 1) < jm_sn (jod s) c' p' b (jm_of (jsp s) b 1) → Q (some (some (.int 1))) (jm_s M L G) := by
    intro h
    rw [jb_y (decide_eq_true (key.mpr h))] at hQ
    exact hQ
  unfold jm_sn at hq0 hq1
  have u1 := jm_pl_le (jod s) (jm_of (jsp s) k 1) 4 0
  have u2 := jm_pl_le (jod s) (jm_of (jsp s) b 1) 4 0
  have p1 : ∃ i, i < 4 ∧ jod s i = jm_of (jsp s) k 1 := by
    rw [e1]
    exact hod.1 d b1
  have p2 : ∃ i, i < 4 ∧ jod s i = jm_of (jsp s) b 1 := by
    rw [e1']
    exact hod.1 d' b1'
  have hb2 : b < jn s := by omega
  refine rg_X6_isBetter_101_0 (cl_i (fun _ h => ct_of_s hR hn (w := 1) hk (by decide) h) (rg_X6_isBetter_101_7 (cl_i (fun _ h => ct_rplaceOf hR p1 h) (rg_X6_isBetter_101_10 (cl_i (fun _ h => ct_of_s hR hn (w := 1) hb2 (by decide) h) (rg_X6_isBetter_101_18 (cl_i (fun _ h => ct_rplaceOf hR p2 h) (rp_X6_isBetter_101_21 ?_))))))))
  generalize hA : jm_pl (jod s) (jm_of (jsp s) k 1) 4 0 = A at *
  generalize hB : jm_pl (jod s) (jm_of (jsp s) b 1) 4 0 = B at *
  rw [nI_eq_iff (show A < 2147483648 by omega) (show B < 2147483648 by omega), nI_le_iff (show B < 2147483648 by omega) (show A < 2147483648 by omega)]
  refine ⟨fun h => ?_, fun h => ⟨fun h2 => hq0 (by omega), fun h2 => hq1 (by omega)⟩⟩
  refine cl_i (fun _ h => ct_of_s hR hn (w := 4) hk (by decide) h) (rg_X6_isBetter_101_47 (cl_i (fun _ h => ct_of_s hR hn (w := 4) hb2 (by decide) h) (rg_X6_isBetter_101_53 ?_)))
  rw [e4, e4', nI_eq_iff (show p < 2147483648 by omega) (show p' < 2147483648 by omega)]
  refine ⟨fun h3 => ?_, fun h3 => ?_⟩
  · refine cl_i (fun _ h => ct_of_s hR hn (w := 0) hk (by decide) h) (rg_X6_isBetter_101_83 (cl_i (fun _ h => ct_of_s hR hn (w := 0) hb2 (by decide) h) (rp_X6_isBetter_101_89 ?_)))
    rw [e0, e0', nI_le_iff (show c' < 2147483648 by omega) (show c < 2147483648 by omega)]
    exact ⟨fun h4 => hq0 (by omega), fun h4 => hq1 (by omega)⟩
  · refine cl_i (fun _ h => ct_of_s hR hn (w := 4) hk (by decide) h) (rg_X6_isBetter_101_62 (cl_i (fun _ h => ct_of_s hR hn (w := 4) hb2 (by decide) h) (rp_X6_isBetter_101_68 ?_)))
    rw [e4, e4', nI_le_iff (show p < 2147483648 by omega) (show p' < 2147483648 by omega)]
    exact ⟨fun h4 => hq0 (by omega), fun h4 => hq1 (by omega)⟩
end Ref0
