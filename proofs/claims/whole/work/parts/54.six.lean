/-! ===== pairs that change (written by wip/gen/gen_six.py) ===== -/
section Six
variable {X : Nat × (Nat → Int32)} {M : Nat → Nat → Int32} {L : Nat → Nat → Int64} {G : Nat → Nat → Option Nat} {Q : am_Q} {s : jS} {a : jA}
theorem rs_b {x : Int32} {f : Nat → Int32} (hR : jR f s) (hn : jn s ≤ 44) : jb (decide (0 ≤ x ∧ x ≤ f 0 - 1)) = jb (decide (0 ≤ x ∧ x < nI (jn s))) := by
  rcases jx_case (jn s) (by omega) x with h | ⟨k, hk, rfl⟩
  · rw [rs_n hR hn h, jb_n (decide_eq_false (fun e => h.elim (fun h => Int32.not_lt.mpr e.1 h) (fun h => Int32.not_lt.mpr h e.2)))]
  · rw [rs_y hR hn hk, jb_y (decide_eq_true ⟨nI_pos' (by omega), nI_lt hk (by omega)⟩)]
theorem ct_isSpanB (hR : jR (M 102) s) (hn : jn s ≤ 44) {x : Int32} (hQ : Q (some (some (.int (jb (decide (0 ≤ x ∧ x < nI (jn s))))))) (jm_s M L G)) : am_T X 130 0 [some (.ref 101), some (.int x)] [] (jm_s M L G) (0, 0) Q := by
  refine ct_isSpan ?_
  rw [rs_b hR hn]
  exact hQ
theorem ct_refusesSpan (hR : jR (M 102) s) (hn : jn s ≤ 20) {x1 x2 x3 x4 x5 : Int32} (hQ : Q (some (some (.int (if jvB x1 x2 x3 x4 x5 = true then (if 20 ≤ jn s then -3 else 0) else -1)))) (jm_s M L G)) : am_T X 189 0 [some (.ref 101), some (.int x1), some (.int x2), some (.int x3), some (.int x4), some (.int x5)] [] (jm_s M L G) (0, 0) Q := by
  refine rg_X6_refusesSpan_101_0 (cl_i (fun _ h => ct_canBe h) (rn_X6_refusesSpan_101_10 ?_))
  by_cases hv : jvB x1 x2 x3 x4 x5 = true
  · rw [if_pos hv] at hQ
    rw [jb_y hv, hR.1]
    refine ⟨fun e => absurd e (by decide), fun _ => ⟨fun h => ?_, fun h => ?_⟩⟩
    · have := (nI_eq_iff (show jn s < 2147483648 by omega) (show 20 < 2147483648 by decide)).mp h
      rw [if_pos (by omega)] at hQ
      exact hQ
    · have : ¬ jn s = 20 := fun e => h (by rw [e]; rfl)
      rw [if_neg (by omega)] at hQ
      exact hQ
  · rw [if_neg hv] at hQ
    rw [jb_n (Bool.eq_false_iff.mpr hv)]
    exact ⟨fun _ => hQ, fun e => absurd rfl e⟩
theorem ct_refusesLast (hR : jR (M 102) s) (hn : jn s ≤ 44) {x f t : Int32} (hQ : Q (some (some (.int (if (0 ≤ x ∧ x < nI (jn s)) ∧ (0 ≤ f ∧ f ≤ t ∧ t ≤ 359) then (if jm_of (jsp s) x.toNatClampNeg 2 = f ∧ jm_of (jsp s) x.toNatClampNeg 3 = t then -2 else 0) else -1)))) (jm_s M L G)) : am_T X 208 0 [some (.ref 101), some (.int x), some (.int f), some (.int t)] [] (jm_s M L G) (0, 0) Q := by
  refine rg_X6_refusesLast_101_0 (cl_i (fun _ h => ct_isSpanB hR hn h) (rn_X6_refusesLast_101_5 ?_))
  by_cases hv : 0 ≤ x ∧ x < nI (jn s)
  · rw [jb_y (decide_eq_true hv)]
    refine ⟨fun e => absurd e (by decide), fun _ => cl_i (fun _ h => ct_risMonth h) (rn_X6_refusesLast_101_12 ?_)⟩
    by_cases h1 : 0 ≤ f ∧ f ≤ 359
    · rw [jb_y (decide_eq_true h1)]
      refine ⟨fun e => absurd e (by decide), fun _ => cl_i (fun _ h => ct_in h) (rn_X6_refusesLast_101_23 ?_)⟩
      by_cases h2 : f ≤ t ∧ t ≤ 359
      · rw [jb_y (decide_eq_true h2)]
        rw [if_pos ⟨hv, h1.1, h2⟩] at hQ
        obtain ⟨k, hk, rfl⟩ := nI_of (Int32.not_lt.mpr hv.1)
        have hkn := (nI_lt_iff (by omega) (by omega)).mp hv.2
        rw [nI_clamp hk] at hQ
        refine ⟨fun e => absurd e (by decide), fun _ => cl_i (fun _ h => ct_of_s hR hn (w := 2) hkn (by decide) h) (rn_X6_refusesLast_101_34 ⟨fun h3 => cl_i (fun _ h => ct_of_s hR hn (w := 3) hkn (by decide) h) (rn_X6_refusesLast_101_44 ⟨fun h4 => ?_, fun h4 => ?_⟩), fun h3 => ?_⟩)⟩
        · rw [if_pos ⟨h3, h4⟩] at hQ
          exact hQ
        · rw [if_neg (fun e => h4 e.2)] at hQ
          exact hQ
        · rw [if_neg (fun e => h3 e.1)] at hQ
          exact hQ
      · rw [jb_n (decide_eq_false h2)]
        rw [if_neg (fun e => h2 e.2.2)] at hQ
        exact ⟨fun _ => hQ, fun e => absurd rfl e⟩
    · rw [jb_n (decide_eq_false h1)]
      rw [if_neg (fun e => h1 ⟨e.2.1, Int32.le_trans e.2.2.1 e.2.2.2⟩)] at hQ
      exact ⟨fun _ => hQ, fun e => absurd rfl e⟩
  · rw [jb_n (decide_eq_false hv)]
    rw [if_neg (fun e => hv e.1)] at hQ
    exact ⟨fun _ => hQ, fun e => absurd rfl e⟩
theorem ct_canLaw {c w v : Int32} (hQ : Q (some (some (.int (jb (decide ((0 ≤ c ∧ c ≤ 4) ∧ (0 ≤ w ∧ w ≤ 3) ∧ (jm_ll w ≤ v ∧ v ≤ jm_lm w))))))) (jm_s M L G)) : am_T X 192 0 [some (.int c), some (.int w), some (.int v)] [] (jm_s M L G) (0, 0) Q := by
  refine rg_X6_canLaw_0 (cl_i (fun _ h => ct_risCountry h) (rn_X6_canLaw_4 ?_))
  by_cases h1 : 0 ≤ c ∧ c ≤ 4
  · rw [jb_y (decide_eq_true h1)]
    refine ⟨fun e => absurd e (by decide), fun _ => cl_i (fun _ h => ct_in h) (rn_X6_canLaw_13 ?_)⟩
    by_cases h2 : 0 ≤ w ∧ w ≤ 3
    · rw [jb_y (decide_eq_true h2)]
      have key : decide ((0 ≤ c ∧ c ≤ 4) ∧ (0 ≤ w ∧ w ≤ 3) ∧ (jm_ll w ≤ v ∧ v ≤ jm_lm w)) = decide (jm_ll w ≤ v ∧ v ≤ jm_lm w) := decide_eq_decide.mpr ⟨fun e => e.2.2, fun e => ⟨h1, h2, e⟩⟩
      rw [key] at hQ
      unfold jm_ll jm_lm at hQ
      refine ⟨fun e => absurd e (by decide), fun _ => ⟨fun h3 => ?_, fun h3 => ⟨fun h4 => ?_, fun h4 => ?_⟩⟩⟩
      · simp only [if_pos h3] at hQ
        exact cl_i (fun _ h => ct_in h) (rg_X6_canLaw_30 (rn_X6_canLaw_56 ⟨jb_01 _, hQ⟩))
      · simp only [if_neg h3, if_pos h4] at hQ
        exact cl_i (fun _ h => ct_in h) (rg_X6_canLaw_46 (rn_X6_canLaw_56 ⟨jb_01 _, hQ⟩))
      · simp only [if_neg h3, if_neg h4] at hQ
        exact cl_i (fun _ h => ct_in h) (rn_X6_canLaw_56 ⟨jb_01 _, hQ⟩)
    · rw [jb_n (decide_eq_false h2)]
      rw [jb_n (decide_eq_false (fun e => h2 e.2.1))] at hQ
      exact ⟨fun _ => hQ, fun e => absurd rfl e⟩
  · rw [jb_n (decide_eq_false h1)]
    rw [jb_n (decide_eq_false (fun e => h1 e.1))] at hQ
    exact ⟨fun _ => hQ, fun e => absurd rfl e⟩
theorem ct_refusesLaw (hR : jR (M 102) s) {c w v : Int32} (hQ : Q (some (some (.int (if (0 ≤ c ∧ c ≤ 4) ∧ (0 ≤ w ∧ w ≤ 3) ∧ (jm_ll w ≤ v ∧ v ≤ jm_lm w) then (if jlw s (4 * c.toNatClampNeg + w.toNatClampNeg) = v then -2 else 0) else -1)))) (jm_s M L G)) : am_T X 210 0 [some (.ref 101), some (.int c), some (.int w), some (.int v)] [] (jm_s M L G) (0, 0) Q := by
  refine rg_X6_refusesLaw_101_0 (cl_i (fun _ h => ct_canLaw h) (rn_X6_refusesLaw_101_6 ?_))
  by_cases hv : (0 ≤ c ∧ c ≤ 4) ∧ (0 ≤ w ∧ w ≤ 3) ∧ (jm_ll w ≤ v ∧ v ≤ jm_lm w)
  · rw [jb_y (decide_eq_true hv)]
    rw [if_pos hv] at hQ
    obtain ⟨c', hc, rfl⟩ := nI_of2 (n := 4) (M := 4) (by decide) (Int32.not_lt.mpr hv.1.1) hv.1.2
    obtain ⟨w', hw, rfl⟩ := nI_of2 (n := 3) (M := 3) (by decide) (Int32.not_lt.mpr hv.2.1.1) hv.2.1.2
    rw [nI_clamp (show c' < 2147483648 by omega), nI_clamp (show w' < 2147483648 by omega)] at hQ
    rw [jr_law c' w', nI_clamp (show 221 + (4 * c' + w') < 2147483648 by omega), hR.2.2.1 (4 * c' + w') (by omega)]
    refine ⟨fun e => absurd e (by decide), fun _ => ⟨vp_in_nI (by omega) (by decide), fun h => ?_, fun h => ?_⟩⟩
    · rw [if_pos h] at hQ
      exact hQ
    · rw [if_neg h] at hQ
      exact hQ
  · rw [jb_n (decide_eq_false hv)]
    rw [if_neg hv] at hQ
    exact ⟨fun _ => hQ, fun e => absurd rfl e⟩
theorem ct_refusesIndex (hR : jR (M 102) s) {y v : Int32} (hQ : Q (some (some (.int (if (0 ≤ y ∧ y ≤ 29) ∧ (50 ≤ v ∧ v ≤ 400) then (if jix s y.toNatClampNeg = v then -2 else 0) else -1)))) (jm_s M L G)) : am_T X 172 0 [some (.ref 101), some (.int y), some (.int v)] [] (jm_s M L G) (0, 0) Q := by
  refine rg_X6_refusesIndex_101_0 (cl_i (fun _ h => ct_in h) (rn_X6_refusesIndex_101_7 ?_))
  by_cases h1 : 0 ≤ y ∧ y ≤ 29
  · rw [jb_y (decide_eq_true h1)]
    refine ⟨fun e => absurd e (by decide), fun _ => cl_i (fun _ h => ct_in h) (rn_X6_refusesIndex_101_19 ?_)⟩
    by_cases h2 : 50 ≤ v ∧ v ≤ 400
    · rw [jb_y (decide_eq_true h2)]
      rw [if_pos ⟨h1, h2⟩] at hQ
      obtain ⟨y', hy, rfl⟩ := nI_of2 (n := 29) (M := 29) (by decide) (Int32.not_lt.mpr h1.1) h1.2
      rw [nI_clamp (show y' < 2147483648 by omega)] at hQ
      rw [show (247 : Int32) + nI y' = nI (247 + y') from nI_add 247 y', nI_clamp (show 247 + y' < 2147483648 by omega), hR.2.2.2.2.2.2 y' (by omega)]
      refine ⟨fun e => absurd e (by decide), fun _ => ⟨vp_in_nI (by omega) (by decide), fun h => ?_, fun h => ?_⟩⟩
      · rw [if_pos h] at hQ
        exact hQ
      · rw [if_neg h] at hQ
        exact hQ
    · rw [jb_n (decide_eq_false h2)]
      rw [if_neg (fun e => h2 e.2)] at hQ
      exact ⟨fun _ => hQ, fun e => absurd rfl e⟩
  · rw [jb_n (decide_eq_false h1)]
    rw [if_neg (fun e => h1 e.1)] at hQ
    exact ⟨fun _ => hQ, fun e => absurd rfl e⟩
/-- which number is set -/
def jcs (w v : Int32) : Bool := if w = 0 then decide (0 ≤ v ∧ v ≤ 24) else if w = 1 then decide (0 ≤ v ∧ v ≤ 60) else false
theorem ct_canSet {w v : Int32} (hQ : Q (some (some (.int (jb (jcs w v))))) (jm_s M L G)) : am_T X 194 0 [some (.int w), some (.int v)] [] (jm_s M L G) (0, 0) Q := by
  unfold jcs at hQ
  refine rn_X6_canSet_0 ⟨fun h0 => ?_, fun h0 => ⟨fun h1 => ?_, fun h1 => ?_⟩⟩
  · rw [if_pos h0] at hQ
    exact cl_i (fun _ h => ct_in h) (rn_X6_canSet_11 ⟨jb_01 _, hQ⟩)
  · rw [if_neg h0, if_pos h1] at hQ
    refine cl_i (fun _ h => ct_in h) (rn_X6_canSet_26 ?_)
    by_cases h2 : 0 ≤ v ∧ v ≤ 60
    · rw [jb_y (decide_eq_true h2)] at hQ ⊢
      exact ⟨fun e => absurd e (by decide), fun _ => hQ⟩
    · rw [jb_n (decide_eq_false h2)] at hQ ⊢
      exact ⟨fun _ => hQ, fun e => absurd rfl e⟩
  · rw [if_neg h0, if_neg h1] at hQ
    exact hQ
theorem ct_refusesSet (hR : jR (M 102) s) {w v : Int32} (hQ : Q (some (some (.int (if jcs w v = true then (if (if w = 0 then jcr s else jle s) = v then -2 else 0) else -1)))) (jm_s M L G)) : am_T X 212 0 [some (.ref 101), some (.int w), some (.int v)] [] (jm_s M L G) (0, 0) Q := by
  refine rg_X6_refusesSet_101_0 (cl_i (fun _ h => ct_canSet h) (rn_X6_refusesSet_101_5 ?_))
  by_cases hv : jcs w v = true
  · rw [jb_y hv]
    rw [if_pos hv] at hQ
    have hw : w = 0 ∨ w = 1 := by
      by_cases h0 : w = 0
      · exact Or.inl h0
      · by_cases h1 : w = 1
        · exact Or.inr h1
        · unfold jcs at hv
          rw [if_neg h0, if_neg h1] at hv
          exact absurd hv (by decide)
    have e : vp_in (245 + w) 277 ∧ M 102 (245 + w).toNatClampNeg = if w = 0 then jcr s else jle s := by
      rcases hw with rfl | rfl
      · exact ⟨vp_in_nI (show 245 < 277 by decide) (by decide), hR.2.2.2.2.1⟩
      · exact ⟨vp_in_nI (show 246 < 277 by decide) (by decide), hR.2.2.2.2.2.1⟩
    rw [e.2]
    refine ⟨fun e => absurd e (by decide), fun _ => ⟨e.1, fun h => ?_, fun h => ?_⟩⟩
    · rw [if_pos h] at hQ
      exact hQ
    · rw [if_neg h] at hQ
      exact hQ
  · rw [jb_n (Bool.eq_false_iff.mpr hv)]
    rw [if_neg hv] at hQ
    exact ⟨fun _ => hQ, fun e => absurd rfl e⟩
theorem jo_set_eq {w v : Int32} : jo_set s w v = if jcs w v = true then (if (if w = 0 then jcr s else jle s) = v then (-2, s) else (if w = 0 then jcr s else jle s, if w = 0 then js_cr s v else js_le s v)) else (-1, s) := by
  unfold jo_set jcs
  by_cases h0 : w = 0
  · simp only [if_pos h0]
    by_cases h1 : 0 ≤ v ∧ v ≤ 24
    · rw [if_pos h1, if_pos (decide_eq_true h1)]
    · rw [if_neg h1, if_neg (by rw [decide_eq_false h1]; decide)]
  · simp only [if_neg h0]
    by_cases h1 : w = 1
    · simp only [if_pos h1]
      by_cases h2 : 0 ≤ v ∧ v ≤ 60
      · rw [if_pos h2, if_pos (decide_eq_true h2)]
      · rw [if_neg h2, if_neg (by rw [decide_eq_false h2]; decide)]
    · simp only [if_neg h1]
      rfl
/-- the reference remembers -/
theorem ct_changeR (hA : jAw a) (hR : jRR M L a) {v : Int32} (hQ : ∀ M', (∀ q, q < 101 → M' q = M q) → jRR M' L (ja_up a (ja_s a)) → Q (some none) (jm_s M' L G)) : am_T X 204 0 [some (.ref 101), none] [] (jm_s (wi_m M 101 5 v) L G) (0, 0) Q := by
  obtain ⟨⟨r1, ⟨r2, r3, r4⟩, r5⟩, rt, rr⟩ := hR
  refine ct_change (n := ja_pn a) (pa := ja_pa a) (s := ja_s a) r2 r3 r4 (fun j hj => Nat.le_trans (hA.2.1.2 j hj).1 (by decide)) r1 (Nat.le_trans hA.1.1 (by decide)) (fun M' f1 f2 f3 f4 => hQ M' (fun q hq => ?_) ?_)
  · rw [f1 q (by omega) (by omega) (by omega), wi_m_p _ _ (by omega)]
  · refine ⟨⟨?_, ⟨f3, (jpush_w r3 hA.2.1.2 hA.1).1, f4⟩, fun i hi => ?_⟩, ?_, ?_⟩
    · rw [f1 102 (by decide) (by decide) (by decide)]
      exact r1
    · rw [f1 122 (by decide) (by decide) (by decide), f1 121 (by decide) (by decide) (by decide)]
      exact r5 i hi
    · unfold jRt at *
      rw [f1 103 (by decide) (by decide) (by decide), f2 2 (by decide)]
      exact rt
    · unfold jRr at *
      rw [f2 4 (by decide)]
      exact rr
theorem jRR_st {M' : Nat → Nat → Int32} {s' : jS} (hR : jRR M L (ja_up a s)) (f : ∀ q, q ≠ 102 → M' q = M q) (h : jR (M' 102) s') : jRR M' L (ja_up a s') := by
  unfold jRR jR0 jRt jRr at *
  rw [f 101 (by decide), f 103 (by decide), f 119 (by decide), f 121 (by decide), f 122 (by decide)]
  exact ⟨⟨h, hR.1.2⟩, hR.2⟩
theorem pp_ch {y z : Nat} {lo lp : am_L} {r : Int32} {s' : jS} (hA : jAw a) (hC : jC M L G a) (hR : jRR M L a) (hw : jw s' 20) (c : ∀ Q : am_Q, (¬ 0 ≤ r → ∀ M', (∀ q, q < 10 ∨ 14 < q → M' q = M q) → Q (some (some (.int r))) (jm_s M' L G)) → (0 ≤ r → ∀ M' G', jC M' L G' (ja_up a s') → (∀ q, 101 ≤ q → M' q = M q) → Q (some (some (.int r))) (jm_s M' L G')) → am_T X y 0 lo [] (jm_s M L G) (0, 0) Q) (rr : ∀ M1 G1, jRR M1 L a → ∀ Q : am_Q, (¬ 0 ≤ r → Q (some (some (.int r))) (jm_s (wi_m M1 101 5 0) L G1)) → (0 ≤ r → ∀ M', (∀ q, q < 101 → M' q = M1 q) → jRR M' L (ja_up a s') → Q (some (some (.int r))) (jm_s M' L G1)) → am_T X z 0 lp [] (jm_s M1 L G1) (0, 0) Q) : jpp X (jm_s M L G) y lo z lp := by
  refine ⟨r, c _ (fun h0 M1 f => ⟨r, rfl, rfl, ?_⟩) (fun h0 M1 G1 hC1 f => ⟨r, rfl, rfl, ?_⟩)⟩
  · have hR1 : jRR M1 L a := jRR_f hR (fun q h1 h2 => f q (by omega)) rfl
    refine rr M1 G hR1 _ (fun _ => ⟨r, rfl, rfl, ?_⟩) (fun h => absurd h h0)
    exact jI_mk hA (jC_t hC (fun q hq => f q (by omega))) (fun q hq => wi_m_p _ _ (by omega)) rfl (jRR_id hR1 (jfr_0 M1 0).1 (jfr_0 M1 0).2)
  · have hR1 : jRR M1 L a := jRR_f hR (fun q h1 h2 => f q (by omega)) rfl
    refine rr M1 G1 hR1 _ (fun h => absurd h0 h) (fun _ M2 g hR2 => ⟨r, rfl, rfl, ?_⟩)
    exact jI_mk (jAw_up hA hw) hC1 g rfl hR2
theorem ct_adoptN {x : Int32} (hx : ¬ 0 ≤ x) (hQ : Q (some (some (.int x))) (jm_s M L G)) : am_T X 109 0 [some (.ref 0), some (.int x)] [] (jm_s M L G) (0, 0) Q := rn_X5_adopt_0_0 ⟨fun h => absurd h hx, fun _ => hQ⟩
theorem cc_comes (hA : jAw a) (hC : jC M L G a) {x1 x2 x3 x4 x5 : Int32} (q0 : ¬ 0 ≤ (jo_bring (ja_s a) x1 x2 x3 x4 x5).1 → ∀ M', (∀ q, q < 10 ∨ 14 < q → M' q = M q) → Q (some (some (.int (jo_bring (ja_s a) x1 x2 x3 x4 x5).1))) (jm_s M' L G)) (q1 : 0 ≤ (jo_bring (ja_s a) x1 x2 x3 x4 x5).1 → ∀ M' G', jC M' L G' (ja_up a (jo_bring (ja_s a) x1 x2 x3 x4 x5).2) → (∀ q, 101 ≤ q → M' q = M q) → Q (some (some (.int (jo_bring (ja_s a) x1 x2 x3 x4 x5).1))) (jm_s M' L G')) : am_T X 88 0 [some (.ref 0), some (.int x1), some (.int x2), some (.int x3), some (.int x4), some (.int x5)] [] (jm_s M L G) (0, 0) Q := by
  refine rg_X5_comes_0_0 (cl_v (ct_copy_10_5 hC.1.1.1 hA.1.1 (fun M1 f1 h1 => ⟨rfl, rg_X5_comes_0_11 (cl_w (ct_bring h1 hA.1.1 (fun M2 f2 h2 => ⟨_, rfl, rg_X5_comes_0_26 ?_⟩)))⟩)))
  by_cases h0 : 0 ≤ (jo_bring (ja_s a) x1 x2 x3 x4 x5).1
  · exact cl_w (ct_adopt hA (jC_t hC (fun q hq => by rw [f2 q (by omega), f1 q (by omega)])) h2 (jo_bring_w hA.1) h0 (fun M3 G3 hC3 f3 => ⟨_, rfl, rg_X5_comes_0_29 (q1 h0 M3 G3 hC3 (fun q hq => by rw [f3 q hq, f2 q (by omega), f1 q (by omega)]))⟩))
  · exact cl_w (ct_adoptN h0 ⟨_, rfl, rg_X5_comes_0_29 (q0 h0 M2 (fun q hq => by rw [f2 q hq, f1 q hq]))⟩)
theorem cc_goes (hA : jAw a) (hC : jC M L G a) {x1 : Int32} (q0 : ¬ 0 ≤ (jo_drop (ja_s a) x1).1 → ∀ M', (∀ q, q < 10 ∨ 14 < q → M' q = M q) → Q (some (some (.int (jo_drop (ja_s a) x1).1))) (jm_s M' L G)) (q1 : 0 ≤ (jo_drop (ja_s a) x1).1 → ∀ M' G', jC M' L G' (ja_up a (jo_drop (ja_s a) x1).2) → (∀ q, 101 ≤ q → M' q = M q) → Q (some (some (.int (jo_drop (ja_s a) x1).1))) (jm_s M' L G')) : am_T X 89 0 [some (.ref 0), some (.int x1)] [] (jm_s M L G) (0, 0) Q := by
  refine rg_X5_goes_0_0 (cl_v (ct_copy_10_5 hC.1.1.1 hA.1.1 (fun M1 f1 h1 => ⟨rfl, rg_X5_goes_0_11 (cl_w (ct_drop h1 (Nat.le_trans hA.1.1 (by decide)) (fun M2 f2 h2 => ⟨_, rfl, rg_X5_goes_0_20 ?_⟩)))⟩)))
  by_cases h0 : 0 ≤ (jo_drop (ja_s a) x1).1
  · exact cl_w (ct_adopt hA (jC_t hC (fun q hq => by rw [f2 q (by omega), f1 q (by omega)])) h2 (jo_drop_w hA.1 (by decide)) h0 (fun M3 G3 hC3 f3 => ⟨_, rfl, rg_X5_goes_0_23 (q1 h0 M3 G3 hC3 (fun q hq => by rw [f3 q hq, f2 q (by omega), f1 q (by omega)]))⟩))
  · exact cl_w (ct_adoptN h0 ⟨_, rfl, rg_X5_goes_0_23 (q0 h0 M2 (fun q hq => by rw [f2 q hq, f1 q hq]))⟩)
theorem cc_lasts (hA : jAw a) (hC : jC M L G a) {x1 x2 x3 : Int32} (q0 : ¬ 0 ≤ (jo_str (ja_s a) x1 x2 x3).1 → ∀ M', (∀ q, q < 10 ∨ 14 < q → M' q = M q) → Q (some (some (.int (jo_str (ja_s a) x1 x2 x3).1))) (jm_s M' L G)) (q1 : 0 ≤ (jo_str (ja_s a) x1 x2 x3).1 → ∀ M' G', jC M' L G' (ja_up a (jo_str (ja_s a) x1 x2 x3).2) → (∀ q, 101 ≤ q → M' q = M q) → Q (some (some (.int (jo_str (ja_s a) x1 x2 x3).1))) (jm_s M' L G')) : am_T X 90 0 [some (.ref 0), some (.int x1), some (.int x2), some (.int x3)] [] (jm_s M L G) (0, 0) Q := by
  refine rg_X5_lasts_0_0 (cl_v (ct_copy_10_5 hC.1.1.1 hA.1.1 (fun M1 f1 h1 => ⟨rfl, rg_X5_lasts_0_11 (cl_w (ct_stretch h1 hA.1.1 (fun M2 f2 h2 => ⟨_, rfl, rg_X5_lasts_0_22 ?_⟩)))⟩)))
  by_cases h0 : 0 ≤ (jo_str (ja_s a) x1 x2 x3).1
  · exact cl_w (ct_adopt hA (jC_t hC (fun q hq => by rw [f2 q (by omega), f1 q (by omega)])) h2 (jo_str_w hA.1) h0 (fun M3 G3 hC3 f3 => ⟨_, rfl, rg_X5_lasts_0_25 (q1 h0 M3 G3 hC3 (fun q hq => by rw [f3 q hq, f2 q (by omega), f1 q (by omega)]))⟩))
  · exact cl_w (ct_adoptN h0 ⟨_, rfl, rg_X5_lasts_0_25 (q0 h0 M2 (fun q hq => by rw [f2 q hq, f1 q hq]))⟩)
theorem cc_becomes (hA : jAw a) (hC : jC M L G a) {x1 x2 x3 : Int32} (q0 : ¬ 0 ≤ (jo_law (ja_s a) x1 x2 x3).1 → ∀ M', (∀ q, q < 10 ∨ 14 < q → M' q = M q) → Q (some (some (.int (jo_law (ja_s a) x1 x2 x3).1))) (jm_s M' L G)) (q1 : 0 ≤ (jo_law (ja_s a) x1 x2 x3).1 → ∀ M' G', jC M' L G' (ja_up a (jo_law (ja_s a) x1 x2 x3).2) → (∀ q, 101 ≤ q → M' q = M q) → Q (some (some (.int (jo_law (ja_s a) x1 x2 x3).1))) (jm_s M' L G')) : am_T X 91 0 [some (.ref 0), some (.int x1), some (.int x2), some (.int x3)] [] (jm_s M L G) (0, 0) Q := by
  refine rg_X5_becomes_0_0 (cl_v (ct_copy_10_5 hC.1.1.1 hA.1.1 (fun M1 f1 h1 => ⟨rfl, rg_X5_becomes_0_11 (cl_w (ct_amend h1 (fun M2 f2 h2 => ⟨_, rfl, rg_X5_becomes_0_22 ?_⟩)))⟩)))
  by_cases h0 : 0 ≤ (jo_law (ja_s a) x1 x2 x3).1
  · exact cl_w (ct_adopt hA (jC_t hC (fun q hq => by rw [f2 q (by omega), f1 q (by omega)])) h2 (jo_law_w hA.1) h0 (fun M3 G3 hC3 f3 => ⟨_, rfl, rg_X5_becomes_0_25 (q1 h0 M3 G3 hC3 (fun q hq => by rw [f3 q hq, f2 q (by omega), f1 q (by omega)]))⟩))
  · exact cl_w (ct_adoptN h0 ⟨_, rfl, rg_X5_becomes_0_25 (q0 h0 M2 (fun q hq => by rw [f2 q hq, f1 q hq]))⟩)
theorem cc_indexes (hA : jAw a) (hC : jC M L G a) {x1 x2 : Int32} (q0 : ¬ 0 ≤ (jo_ix (ja_s a) x1 x2).1 → ∀ M', (∀ q, q < 10 ∨ 14 < q → M' q = M q) → Q (some (some (.int (jo_ix (ja_s a) x1 x2).1))) (jm_s M' L G)) (q1 : 0 ≤ (jo_ix (ja_s a) x1 x2).1 → ∀ M' G', jC M' L G' (ja_up a (jo_ix (ja_s a) x1 x2).2) → (∀ q, 101 ≤ q → M' q = M q) → Q (some (some (.int (jo_ix (ja_s a) x1 x2).1))) (jm_s M' L G')) : am_T X 92 0 [some (.ref 0), some (.int x1), some (.int x2)] [] (jm_s M L G) (0, 0) Q := by
  refine rg_X5_indexes_0_0 (cl_v (ct_copy_10_5 hC.1.1.1 hA.1.1 (fun M1 f1 h1 => ⟨rfl, rg_X5_indexes_0_11 (cl_w (ct_putIndex h1 (fun M2 f2 h2 => ⟨_, rfl, rg_X5_indexes_0_21 ?_⟩)))⟩)))
  by_cases h0 : 0 ≤ (jo_ix (ja_s a) x1 x2).1
  · exact cl_w (ct_adopt hA (jC_t hC (fun q hq => by rw [f2 q (by omega), f1 q (by omega)])) h2 (jo_ix_w hA.1) h0 (fun M3 G3 hC3 f3 => ⟨_, rfl, rg_X5_indexes_0_24 (q1 h0 M3 G3 hC3 (fun q hq => by rw [f3 q hq, f2 q (by omega), f1 q (by omega)]))⟩))
  · exact cl_w (ct_adoptN h0 ⟨_, rfl, rg_X5_indexes_0_24 (q0 h0 M2 (fun q hq => by rw [f2 q hq, f1 q hq]))⟩)
theorem cc_sets (hA : jAw a) (hC : jC M L G a) {x1 x2 : Int32} (q0 : ¬ 0 ≤ (jo_set (ja_s a) x1 x2).1 → ∀ M', (∀ q, q < 10 ∨ 14 < q → M' q = M q) → Q (some (some (.int (jo_set (ja_s a) x1 x2).1))) (jm_s M' L G)) (q1 : 0 ≤ (jo_set (ja_s a) x1 x2).1 → ∀ M' G', jC M' L G' (ja_up a (jo_set (ja_s a) x1 x2).2) → (∀ q, 101 ≤ q → M' q = M q) → Q (some (some (.int (jo_set (ja_s a) x1 x2).1))) (jm_s M' L G')) : am_T X 93 0 [some (.ref 0), some (.int x1), some (.int x2)] [] (jm_s M L G) (0, 0) Q := by
  refine rg_X5_sets_0_0 (cl_v (ct_copy_10_5 hC.1.1.1 hA.1.1 (fun M1 f1 h1 => ⟨rfl, rg_X5_sets_0_11 (cl_w (ct_adjust h1 (fun M2 f2 h2 => ⟨_, rfl, rg_X5_sets_0_21 ?_⟩)))⟩)))
  by_cases h0 : 0 ≤ (jo_set (ja_s a) x1 x2).1
  · exact cl_w (ct_adopt hA (jC_t hC (fun q hq => by rw [f2 q (by omega), f1 q (by omega)])) h2 (jo_set_w hA.1) h0 (fun M3 G3 hC3 f3 => ⟨_, rfl, rg_X5_sets_0_24 (q1 h0 M3 G3 hC3 (fun q hq => by rw [f3 q hq, f2 q (by omega), f1 q (by omega)]))⟩))
  · exact cl_w (ct_adoptN h0 ⟨_, rfl, rg_X5_sets_0_24 (q0 h0 M2 (fun q hq => by rw [f2 q hq, f1 q hq]))⟩)
theorem rr_comes (hA : jAw a) (hR : jRR M L a) {x1 x2 x3 x4 x5 : Int32} (q0 : ¬ 0 ≤ (jo_bring (ja_s a) x1 x2 x3 x4 x5).1 → Q (some (some (.int (jo_bring (ja_s a) x1 x2 x3 x4 x5).1))) (jm_s (wi_m M 101 5 0) L G)) (q1 : 0 ≤ (jo_bring (ja_s a) x1 x2 x3 x4 x5).1 → ∀ M', (∀ q, q < 101 → M' q = M q) → jRR M' L (ja_up a (jo_bring (ja_s a) x1 x2 x3 x4 x5).2) → Q (some (some (.int (jo_bring (ja_s a) x1 x2 x3 x4 x5).1))) (jm_s M' L G)) : am_T X 206 0 [some (.ref 101), some (.int x1), some (.int x2), some (.int x3), some (.int x4), some (.int x5), none] [] (jm_s M L G) (0, 0) Q := by
  have hR0 : jR ((wi_m M 101 5 0) 102) (ja_s a) := hR.1.1
  unfold jo_bring at q0 q1
  refine rg_X6_comes_101_0 (cl_i (fun _ h => ct_refusesSpan hR0 hA.1.1 h) (rn_X6_comes_101_16 ?_))
  by_cases hv : jvB x1 x2 x3 x4 x5 = true
  · simp only [if_pos hv] at q0 q1 ⊢
    by_cases hn : 20 ≤ jn (ja_s a)
    · simp only [if_pos hn] at q0 q1 ⊢
      exact ⟨fun e => absurd e (by decide), fun e => q0 e⟩
    · simp only [if_neg hn] at q0 q1 ⊢
      refine ⟨fun _ => cl_v (ct_changeR hA hR (fun M1 f1 hR1 => ⟨rfl, rg_X6_comes_101_30 (cl_v (ct_put hR1.1.1 (by show jn (ja_s a) < 44; omega) (fun M2 f2 h2 => ⟨rfl, rn_X6_comes_101_41 ?_⟩)))⟩)), fun e => absurd (by decide) e⟩
      rw [h2.1]
      exact q1 (nI_pos' (by omega)) M2 (fun q hq => by rw [f2 q (by omega), f1 q hq]) (jRR_st hR1 f2 h2)
  · simp only [if_neg hv] at q0 q1 ⊢
    exact ⟨fun e => absurd e (by decide), fun e => q0 e⟩
theorem rr_goes (hA : jAw a) (hR : jRR M L a) {x1 : Int32} (q0 : ¬ 0 ≤ (jo_drop (ja_s a) x1).1 → Q (some (some (.int (jo_drop (ja_s a) x1).1))) (jm_s (wi_m M 101 5 0) L G)) (q1 : 0 ≤ (jo_drop (ja_s a) x1).1 → ∀ M', (∀ q, q < 101 → M' q = M q) → jRR M' L (ja_up a (jo_drop (ja_s a) x1).2) → Q (some (some (.int (jo_drop (ja_s a) x1).1))) (jm_s M' L G)) : am_T X 207 0 [some (.ref 101), some (.int x1)] [] (jm_s M L G) (0, 0) Q := by
  have hR0 : jR ((wi_m M 101 5 0) 102) (ja_s a) := hR.1.1
  have hn := hA.1.1
  unfold jo_drop at q0 q1
  refine rg_X6_goes_101_0 (cl_i (fun _ h => ct_isSpanB hR0 (by omega) h) (rn_X6_goes_101_10 ?_))
  by_cases hv : 0 ≤ x1 ∧ x1 < nI (jn (ja_s a))
  · rw [jb_y (decide_eq_true hv)]
    simp only [if_pos hv] at q0 q1
    obtain ⟨k, hk, rfl⟩ := nI_of (Int32.not_lt.mpr hv.1)
    have hkn := (nI_lt_iff (by omega) (by omega)).mp hv.2
    rw [nI_clamp hk] at q1
    refine ⟨fun e => absurd e (by decide), fun _ => cl_v (ct_changeR hA hR (fun M1 f1 hR1 => ⟨rfl, rg_X6_goes_101_19 (cl_v (ct_rdrop hR1.1.1 (by show jn (ja_s a) ≤ 44; omega) hkn (fun M2 f2 h2 => ⟨rfl, rn_X6_goes_101_24 ?_⟩)))⟩))⟩
    rw [h2.1]
    exact q1 (nI_pos' (by omega)) M2 (fun q hq => by rw [f2 q (by omega), f1 q hq]) (jRR_st hR1 f2 h2)
  · rw [jb_n (decide_eq_false hv)]
    simp only [if_neg hv] at q0 q1
    exact ⟨fun _ => q0 (by decide), fun e => absurd rfl e⟩
theorem jR_str {f : Nat → Int32} (hR : jR f s) (hn : jn s ≤ 44) {k : Nat} (hk : k < jn s) {x y : Int32} : jR (fun i => if i = 1 + (5 * k + 3) then y else if i = 1 + (5 * k + 2) then x else f i) (js_str s k x y) := by
  obtain ⟨h1, h2, h3, h4, h5, h6, h7⟩ := hR
  refine ⟨?_, fun i hi => ?_, fun i hi => ?_, fun i hi => ?_, ?_, ?_, fun i hi => ?_⟩
  · show (if 0 = 1 + (5 * k + 3) then y else if 0 = 1 + (5 * k + 2) then x else f 0) = _
    rw [if_neg (by omega), if_neg (by omega)]; exact h1
  · have hi2 : i < 5 * jn s := hi
    show (if 1 + i = 1 + (5 * k + 3) then y else if 1 + i = 1 + (5 * k + 2) then x else f (1 + i)) = if i = 5 * k + 3 then y else if i = 5 * k + 2 then x else jsp s i
    have := h2 i hi2
    grind
  · show (if 221 + i = 1 + (5 * k + 3) then y else if 221 + i = 1 + (5 * k + 2) then x else f (221 + i)) = _
    rw [if_neg (by omega), if_neg (by omega)]; exact h3 i hi
  · show (if 241 + i = 1 + (5 * k + 3) then y else if 241 + i = 1 + (5 * k + 2) then x else f (241 + i)) = _
    rw [if_neg (by omega), if_neg (by omega)]; exact h4 i hi
  · show (if 245 = 1 + (5 * k + 3) then y else if 245 = 1 + (5 * k + 2) then x else f 245) = _
    rw [if_neg (by omega), if_neg (by omega)]; exact h5
  · show (if 246 = 1 + (5 * k + 3) then y else if 246 = 1 + (5 * k + 2) then x else f 246) = _
    rw [if_neg (by omega), if_neg (by omega)]; exact h6
  · show (if 247 + i = 1 + (5 * k + 3) then y else if 247 + i = 1 + (5 * k + 2) then x else f (247 + i)) = _
    rw [if_neg (by omega), if_neg (by omega)]; exact h7 i hi
theorem wi_m_f (M : Nat → Nat → Int32) (p i : Nat) (v : Int32) : (wi_m M p i v) p = fun j => if j = i then v else M p j := by
  funext j
  rw [wi_m_eq, if_pos rfl]
theorem jR_law {f : Nat → Int32} (hR : jR f s) (hn : jn s ≤ 44) {i : Nat} (hi : i < 20) {v : Int32} : jR (fun j => if j = 221 + i then v else f j) (js_law s i v) := by
  obtain ⟨h1, h2, h3, h4, h5, h6, h7⟩ := hR
  refine ⟨?_, fun j hj => ?_, fun j hj => ?_, fun j hj => ?_, ?_, ?_, fun j hj => ?_⟩
  · show (if 0 = 221 + i then v else f 0) = _
    rw [if_neg (by omega)]; exact h1
  · have hj2 : j < 5 * jn s := hj
    show (if 1 + j = 221 + i then v else f (1 + j)) = _
    rw [if_neg (by omega)]; exact h2 j hj2
  · show (if 221 + j = 221 + i then v else f (221 + j)) = if j = i then v else jlw s j
    have := h3 j hj
    grind
  · show (if 241 + j = 221 + i then v else f (241 + j)) = _
    rw [if_neg (by omega)]; exact h4 j hj
  · show (if 245 = 221 + i then v else f 245) = _
    rw [if_neg (by omega)]; exact h5
  · show (if 246 = 221 + i then v else f 246) = _
    rw [if_neg (by omega)]; exact h6
  · show (if 247 + j = 221 + i then v else f (247 + j)) = _
    rw [if_neg (by omega)]; exact h7 j hj
theorem jR_ix {f : Nat → Int32} (hR : jR f s) (hn : jn s ≤ 44) {i : Nat} (hi : i < 30) {v : Int32} : jR (fun j => if j = 247 + i then v else f j) (js_ix s i v) := by
  obtain ⟨h1, h2, h3, h4, h5, h6, h7⟩ := hR
  refine ⟨?_, fun j hj => ?_, fun j hj => ?_, fun j hj => ?_, ?_, ?_, fun j hj => ?_⟩
  · show (if 0 = 247 + i then v else f 0) = _
    rw [if_neg (by omega)]; exact h1
  · have hj2 : j < 5 * jn s := hj
    show (if 1 + j = 247 + i then v else f (1 + j)) = _
    rw [if_neg (by omega)]; exact h2 j hj2
  · show (if 221 + j = 247 + i then v else f (221 + j)) = _
    rw [if_neg (by omega)]; exact h3 j hj
  · show (if 241 + j = 247 + i then v else f (241 + j)) = _
    rw [if_neg (by omega)]; exact h4 j hj
  · show (if 245 = 247 + i then v else f 245) = _
    rw [if_neg (by omega)]; exact h5
  · show (if 246 = 247 + i then v else f 246) = _
    rw [if_neg (by omega)]; exact h6
  · show (if 247 + j = 247 + i then v else f (247 + j)) = if j = i then v else jix s j
    have := h7 j hj
    grind
theorem jR_cr {f : Nat → Int32} (hR : jR f s) (hn : jn s ≤ 44) {v : Int32} : jR (fun j => if j = 245 then v else f j) (js_cr s v) := by
  obtain ⟨h1, h2, h3, h4, h5, h6, h7⟩ := hR
  refine ⟨h1, fun j hj => ?_, fun j hj => ?_, fun j hj => ?_, rfl, h6, fun j hj => ?_⟩
  · have hj2 : j < 5 * jn s := hj
    show (if 1 + j = 245 then v else f (1 + j)) = _
    rw [if_neg (by omega)]; exact h2 j hj2
  · show (if 221 + j = 245 then v else f (221 + j)) = _
    rw [if_neg (by omega)]; exact h3 j hj
  · show (if 241 + j = 245 then v else f (241 + j)) = _
    rw [if_neg (by omega)]; exact h4 j hj
  · show (if 247 + j = 245 then v else f (247 + j)) = _
    rw [if_neg (by omega)]; exact h7 j hj
theorem jR_le {f : Nat → Int32} (hR : jR f s) (hn : jn s ≤ 44) {v : Int32} : jR (fun j => if j = 246 then v else f j) (js_le s v) := by
  obtain ⟨h1, h2, h3, h4, h5, h6, h7⟩ := hR
  refine ⟨h1, fun j hj => ?_, fun j hj => ?_, fun j hj => ?_, h5, rfl, fun j hj => ?_⟩
  · have hj2 : j < 5 * jn s := hj
    show (if 1 + j = 246 then v else f (1 + j)) = _
    rw [if_neg (by omega)]; exact h2 j hj2
  · show (if 221 + j = 246 then v else f (221 + j)) = _
    rw [if_neg (by omega)]; exact h3 j hj
  · show (if 241 + j = 246 then v else f (241 + j)) = _
    rw [if_neg (by omega)]; exact h4 j hj
  · show (if 247 + j = 246 then v else f (247 + j)) = _
    rw [if_neg (by omega)]; exact h7 j hj
theorem jr_sp (k w : Nat) : ((1 : Int32) + (5 : Int32) * nI k) + nI w = nI (1 + (5 * k + w)) := by
  rw [show (5 : Int32) * nI k = nI (5 * k) from pk_mul 5 k, show (1 : Int32) + nI (5 * k) = nI (1 + 5 * k) from nI_add 1 (5 * k), nI_add, Nat.add_assoc]
theorem rr_lasts (hA : jAw a) (hR : jRR M L a) {x1 x2 x3 : Int32} (q0 : ¬ 0 ≤ (jo_str (ja_s a) x1 x2 x3).1 → Q (some (some (.int (jo_str (ja_s a) x1 x2 x3).1))) (jm_s (wi_m M 101 5 0) L G)) (q1 : 0 ≤ (jo_str (ja_s a) x1 x2 x3).1 → ∀ M', (∀ q, q < 101 → M' q = M q) → jRR M' L (ja_up a (jo_str (ja_s a) x1 x2 x3).2) → Q (some (some (.int (jo_str (ja_s a) x1 x2 x3).1))) (jm_s M' L G)) : am_T X 209 0 [some (.ref 101), some (.int x1), some (.int x2), some (.int x3), none] [] (jm_s M L G) (0, 0) Q := by
  have hR0 : jR ((wi_m M 101 5 0) 102) (ja_s a) := hR.1.1
  have hn := hA.1.1
  unfold jo_str at q0 q1
  refine rg_X6_lasts_101_0 (cl_i (fun _ h => ct_refusesLast hR0 (by omega) h) (rn_X6_lasts_101_12 ?_))
  by_cases hv : (0 ≤ x1 ∧ x1 < nI (jn (ja_s a))) ∧ (0 ≤ x2 ∧ x2 ≤ x3 ∧ x3 ≤ 359)
  · simp only [if_pos hv] at q0 q1 ⊢
    by_cases hs : jm_of (jsp (ja_s a)) x1.toNatClampNeg 2 = x2 ∧ jm_of (jsp (ja_s a)) x1.toNatClampNeg 3 = x3
    · simp only [if_pos hs] at q0 q1 ⊢
      exact ⟨fun e => absurd e (by decide), fun e => q0 e⟩
    · simp only [if_neg hs] at q0 q1 ⊢
      obtain ⟨k, hk, rfl⟩ := nI_of (Int32.not_lt.mpr hv.1.1)
      have hkn := (nI_lt_iff (by omega) (by omega)).mp hv.1.2
      obtain ⟨t, ht, rfl⟩ := nI_of2 (n := 359) (M := 359) (by decide) (Int32.not_lt.mpr (Int32.le_trans hv.2.1 hv.2.2.1)) hv.2.2.2
      obtain ⟨f, hf, rfl⟩ := nI_of2 (n := 359) (M := 359) (by decide) (Int32.not_lt.mpr hv.2.1) (Int32.le_trans hv.2.2.1 hv.2.2.2)
      have hft := (nI_le_iff (by omega) (by omega)).mp hv.2.2.1
      rw [nI_clamp hk] at q1
      refine ⟨fun _ => cl_v (ct_changeR hA hR (fun M1 f1 hR1 => ⟨rfl, rn_X6_lasts_101_26 ?_⟩)), fun e => absurd (by decide) e⟩
      rw [show ((1 : Int32) + 5 * nI k) + 2 = nI (1 + (5 * k + 2)) from jr_sp k 2, show ((1 : Int32) + 5 * nI k) + 3 = nI (1 + (5 * k + 3)) from jr_sp k 3, nI_clamp (show 1 + (5 * k + 2) < 2147483648 by omega), nI_clamp (show 1 + (5 * k + 3) < 2147483648 by omega)]
      refine ⟨vp_in_nI (by omega) (by decide), vp_in_nI (by omega) (by decide), q1 ?_ _ (fun q hq => by rw [wi_m_p _ _ (by omega), wi_m_p _ _ (by omega), f1 q hq]) (jRR_st hR1 (fun q hq => by rw [wi_m_p _ _ hq, wi_m_p _ _ hq]) ?_)⟩
      · rw [pk_sub hft, nI_1]
        exact nI_pos' (by omega)
      · rw [wi_m_f, wi_m_f]
        exact jR_str hR1.1.1 (by show jn (ja_s a) ≤ 44; omega) hkn
  · simp only [if_neg hv] at q0 q1 ⊢
    exact ⟨fun e => absurd e (by decide), fun e => q0 e⟩
theorem rr_becomes (hA : jAw a) (hR : jRR M L a) {x1 x2 x3 : Int32} (q0 : ¬ 0 ≤ (jo_law (ja_s a) x1 x2 x3).1 → Q (some (some (.int (jo_law (ja_s a) x1 x2 x3).1))) (jm_s (wi_m M 101 5 0) L G)) (q1 : 0 ≤ (jo_law (ja_s a) x1 x2 x3).1 → ∀ M', (∀ q, q < 101 → M' q = M q) → jRR M' L (ja_up a (jo_law (ja_s a) x1 x2 x3).2) → Q (some (some (.int (jo_law (ja_s a) x1 x2 x3).1))) (jm_s M' L G)) : am_T X 211 0 [some (.ref 101), some (.int x1), some (.int x2), some (.int x3), none, none] [] (jm_s M L G) (0, 0) Q := by
  have hR0 : jR ((wi_m M 101 5 0) 102) (ja_s a) := hR.1.1
  have hn := hA.1.1
  unfold jo_law at q0 q1
  refine rg_X6_becomes_101_0 (cl_i (fun _ h => ct_refusesLaw hR0 h) (rn_X6_becomes_101_12 ?_))
  by_cases hv : (0 ≤ x1 ∧ x1 ≤ 4) ∧ (0 ≤ x2 ∧ x2 ≤ 3) ∧ (jm_ll x2 ≤ x3 ∧ x3 ≤ jm_lm x2)
  · simp only [if_pos hv] at q0 q1 ⊢
    by_cases hs : jlw (ja_s a) (4 * x1.toNatClampNeg + x2.toNatClampNeg) = x3
    · simp only [if_pos hs] at q0 q1 ⊢
      exact ⟨fun e => absurd e (by decide), fun e => q0 e⟩
    · simp only [if_neg hs] at q0 q1 ⊢
      obtain ⟨c, hc, rfl⟩ := nI_of2 (n := 4) (M := 4) (by decide) (Int32.not_lt.mpr hv.1.1) hv.1.2
      obtain ⟨w, hw, rfl⟩ := nI_of2 (n := 3) (M := 3) (by decide) (Int32.not_lt.mpr hv.2.1.1) hv.2.1.2
      rw [nI_clamp (show c < 2147483648 by omega), nI_clamp (show w < 2147483648 by omega)] at q1
      refine ⟨fun _ => cl_v (ct_changeR hA hR (fun M1 f1 hR1 => ⟨rfl, rn_X6_becomes_101_26 ?_⟩)), fun e => absurd (by decide) e⟩
      have e1 : M1 102 (221 + (4 * c + w)) = jlw (ja_s a) (4 * c + w) := hR1.1.1.2.2.1 (4 * c + w) (by omega)
      rw [jr_law c w, nI_clamp (show 221 + (4 * c + w) < 2147483648 by omega), e1]
      obtain ⟨k, hk, ek⟩ := hA.1.2.2.2.1 (4 * c + w) (by omega)
      refine ⟨vp_in_nI (by omega) (by decide), q1 ?_ _ (fun q hq => by rw [wi_m_p _ _ (by omega), f1 q hq]) (jRR_st hR1 (fun q hq => by rw [wi_m_p _ _ hq]) ?_)⟩
      · rw [ek]
        exact nI_pos' (by omega)
      · rw [wi_m_f]
        exact jR_law hR1.1.1 (by show jn (ja_s a) ≤ 44; omega) (by omega)
  · simp only [if_neg hv] at q0 q1 ⊢
    exact ⟨fun e => absurd e (by decide), fun e => q0 e⟩
theorem rr_indexes (hA : jAw a) (hR : jRR M L a) {x1 x2 : Int32} (q0 : ¬ 0 ≤ (jo_ix (ja_s a) x1 x2).1 → Q (some (some (.int (jo_ix (ja_s a) x1 x2).1))) (jm_s (wi_m M 101 5 0) L G)) (q1 : 0 ≤ (jo_ix (ja_s a) x1 x2).1 → ∀ M', (∀ q, q < 101 → M' q = M q) → jRR M' L (ja_up a (jo_ix (ja_s a) x1 x2).2) → Q (some (some (.int (jo_ix (ja_s a) x1 x2).1))) (jm_s M' L G)) : am_T X 173 0 [some (.ref 101), some (.int x1), some (.int x2), none, none] [] (jm_s M L G) (0, 0) Q := by
  have hR0 : jR ((wi_m M 101 5 0) 102) (ja_s a) := hR.1.1
  have hn := hA.1.1
  unfold jo_ix at q0 q1
  refine rg_X6_indexes_101_0 (cl_i (fun _ h => ct_refusesIndex hR0 h) (rn_X6_indexes_101_11 ?_))
  by_cases hv : (0 ≤ x1 ∧ x1 ≤ 29) ∧ (50 ≤ x2 ∧ x2 ≤ 400)
  · simp only [if_pos hv] at q0 q1 ⊢
    by_cases hs : jix (ja_s a) x1.toNatClampNeg = x2
    · simp only [if_pos hs] at q0 q1 ⊢
      exact ⟨fun e => absurd e (by decide), fun e => q0 e⟩
    · simp only [if_neg hs] at q0 q1 ⊢
      obtain ⟨y, hy, rfl⟩ := nI_of2 (n := 29) (M := 29) (by decide) (Int32.not_lt.mpr hv.1.1) hv.1.2
      rw [nI_clamp (show y < 2147483648 by omega)] at q1
      refine ⟨fun _ => cl_v (ct_changeR hA hR (fun M1 f1 hR1 => ⟨rfl, rn_X6_indexes_101_22 ?_⟩)), fun e => absurd (by decide) e⟩
      have e1 : M1 102 (247 + y) = jix (ja_s a) y := hR1.1.1.2.2.2.2.2.2 y (by omega)
      rw [show (247 : Int32) + nI y = nI (247 + y) from nI_add 247 y, nI_clamp (show 247 + y < 2147483648 by omega), e1]
      obtain ⟨k, hk, ek⟩ := hA.1.2.2.2.2.1 y (by omega)
      refine ⟨vp_in_nI (by omega) (by decide), q1 ?_ _ (fun q hq => by rw [wi_m_p _ _ (by omega), f1 q hq]) (jRR_st hR1 (fun q hq => by rw [wi_m_p _ _ hq]) ?_)⟩
      · rw [ek]
        exact nI_pos' (by omega)
      · rw [wi_m_f]
        exact jR_ix hR1.1.1 (by show jn (ja_s a) ≤ 44; omega) (by omega)
  · simp only [if_neg hv] at q0 q1 ⊢
    exact ⟨fun e => absurd e (by decide), fun e => q0 e⟩
theorem rr_sets (hA : jAw a) (hR : jRR M L a) {x1 x2 : Int32} (q0 : ¬ 0 ≤ (jo_set (ja_s a) x1 x2).1 → Q (some (some (.int (jo_set (ja_s a) x1 x2).1))) (jm_s (wi_m M 101 5 0) L G)) (q1 : 0 ≤ (jo_set (ja_s a) x1 x2).1 → ∀ M', (∀ q, q < 101 → M' q = M q) → jRR M' L (ja_up a (jo_set (ja_s a) x1 x2).2) → Q (some (some (.int (jo_set (ja_s a) x1 x2).1))) (jm_s M' L G)) : am_T X 213 0 [some (.ref 101), some (.int x1), some (.int x2), none, none] [] (jm_s M L G) (0, 0) Q := by
  have hR0 : jR ((wi_m M 101 5 0) 102) (ja_s a) := hR.1.1
  have hn := hA.1.1
  rw [jo_set_eq] at q0 q1
  refine rg_X6_sets_101_0 (cl_i (fun _ h => ct_refusesSet hR0 h) (rn_X6_sets_101_11 ?_))
  by_cases hv : jcs x1 x2 = true
  · simp only [if_pos hv] at q0 q1 ⊢
    by_cases hs : (if x1 = 0 then jcr (ja_s a) else jle (ja_s a)) = x2
    · simp only [if_pos hs] at q0 q1 ⊢
      exact ⟨fun e => absurd e (by decide), fun e => q0 e⟩
    · simp only [if_neg hs] at q0 q1 ⊢
      refine ⟨fun _ => cl_v (ct_changeR hA hR (fun M1 f1 hR1 => ⟨rfl, rn_X6_sets_101_22 ?_⟩)), fun e => absurd (by decide) e⟩
      by_cases h0 : x1 = 0
      · subst h0
        rw [if_pos rfl, if_pos rfl] at q1
        obtain ⟨k, hk, ek⟩ := hA.1.2.2.2.2.2.1
        have e1 : M1 102 (245 + 0 : Int32).toNatClampNeg = jcr (ja_s a) := hR1.1.1.2.2.2.2.1
        rw [e1]
        refine ⟨vp_in_nI (show 245 < 277 by decide) (by decide), q1 ?_ _ (fun q hq => by rw [wi_m_p _ _ (by omega), f1 q hq]) (jRR_st hR1 (fun q hq => by rw [wi_m_p _ _ hq]) ?_)⟩
        · rw [ek]
          exact nI_pos' (by omega)
        · rw [wi_m_f]
          exact jR_cr hR1.1.1 (by show jn (ja_s a) ≤ 44; omega)
      · have h1 : x1 = 1 := by
          by_cases h1 : x1 = 1
          · exact h1
          · unfold jcs at hv
            rw [if_neg h0, if_neg h1] at hv
            exact absurd hv (by decide)
        subst h1
        rw [if_neg h0, if_neg h0] at q1
        obtain ⟨k, hk, ek⟩ := hA.1.2.2.2.2.2.2
        have e1 : M1 102 (245 + 1 : Int32).toNatClampNeg = jle (ja_s a) := hR1.1.1.2.2.2.2.2.1
        rw [e1]
        refine ⟨vp_in_nI (show 246 < 277 by decide) (by decide), q1 ?_ _ (fun q hq => by rw [wi_m_p _ _ (by omega), f1 q hq]) (jRR_st hR1 (fun q hq => by rw [wi_m_p _ _ hq]) ?_)⟩
        · rw [ek]
          exact nI_pos' (by omega)
        · rw [wi_m_f]
          exact jR_le hR1.1.1 (by show jn (ja_s a) ≤ 44; omega)
  · simp only [if_neg hv] at q0 q1 ⊢
    exact ⟨fun e => absurd e (by decide), fun e => q0 e⟩
theorem pp_comes (hA : jAw a) (hC : jC M L G a) (hR : jRR M L a) (x1 x2 x3 x4 x5 : Int32) : jpp X (jm_s M L G) 88 [some (.ref 0), some (.int x1), some (.int x2), some (.int x3), some (.int x4), some (.int x5)] 206 [some (.ref 101), some (.int x1), some (.int x2), some (.int x3), some (.int x4), some (.int x5), none] :=
  pp_ch (r := (jo_bring (ja_s a) x1 x2 x3 x4 x5).1) (s' := (jo_bring (ja_s a) x1 x2 x3 x4 x5).2) hA hC hR (jo_bring_w hA.1) (fun Q q0 q1 => cc_comes hA hC q0 q1) (fun M1 G1 hR1 Q q0 q1 => rr_comes hA hR1 q0 q1)
theorem pp_goes (hA : jAw a) (hC : jC M L G a) (hR : jRR M L a) (x1 : Int32) : jpp X (jm_s M L G) 89 [some (.ref 0), some (.int x1)] 207 [some (.ref 101), some (.int x1)] :=
  pp_ch (r := (jo_drop (ja_s a) x1).1) (s' := (jo_drop (ja_s a) x1).2) hA hC hR (jo_drop_w hA.1 (by decide)) (fun Q q0 q1 => cc_goes hA hC q0 q1) (fun M1 G1 hR1 Q q0 q1 => rr_goes hA hR1 q0 q1)
theorem pp_lasts (hA : jAw a) (hC : jC M L G a) (hR : jRR M L a) (x1 x2 x3 : Int32) : jpp X (jm_s M L G) 90 [some (.ref 0), some (.int x1), some (.int x2), some (.int x3)] 209 [some (.ref 101), some (.int x1), some (.int x2), some (.int x3), none] :=
  pp_ch (r := (jo_str (ja_s a) x1 x2 x3).1) (s' := (jo_str (ja_s a) x1 x2 x3).2) hA hC hR (jo_str_w hA.1) (fun Q q0 q1 => cc_lasts hA hC q0 q1) (fun M1 G1 hR1 Q q0 q1 => rr_lasts hA hR1 q0 q1)
theorem pp_becomes (hA : jAw a) (hC : jC M L G a) (hR : jRR M L a) (x1 x2 x3 : Int32) : jpp X (jm_s M L G) 91 [some (.ref 0), some (.int x1), some (.int x2), some (.int x3)] 211 [some (.ref 101), some (.int x1), some (.int x2), some (.int x3), none, none] :=
  pp_ch (r := (jo_law (ja_s a) x1 x2 x3).1) (s' := (jo_law (ja_s a) x1 x2 x3).2) hA hC hR (jo_law_w hA.1) (fun Q q0 q1 => cc_becomes hA hC q0 q1) (fun M1 G1 hR1 Q q0 q1 => rr_becomes hA hR1 q0 q1)
theorem pp_indexes (hA : jAw a) (hC : jC M L G a) (hR : jRR M L a) (x1 x2 : Int32) : jpp X (jm_s M L G) 92 [some (.ref 0), some (.int x1), some (.int x2)] 173 [some (.ref 101), some (.int x1), some (.int x2), none, none] :=
  pp_ch (r := (jo_ix (ja_s a) x1 x2).1) (s' := (jo_ix (ja_s a) x1 x2).2) hA hC hR (jo_ix_w hA.1) (fun Q q0 q1 => cc_indexes hA hC q0 q1) (fun M1 G1 hR1 Q q0 q1 => rr_indexes hA hR1 q0 q1)
theorem pp_sets (hA : jAw a) (hC : jC M L G a) (hR : jRR M L a) (x1 x2 : Int32) : jpp X (jm_s M L G) 93 [some (.ref 0), some (.int x1), some (.int x2)] 213 [some (.ref 101), some (.int x1), some (.int x2), none, none] :=
  pp_ch (r := (jo_set (ja_s a) x1 x2).1) (s' := (jo_set (ja_s a) x1 x2).2) hA hC hR (jo_set_w hA.1) (fun Q q0 q1 => cc_sets hA hC q0 q1) (fun M1 G1 hR1 Q q0 q1 => rr_sets hA hR1 q0 q1)
end Six
