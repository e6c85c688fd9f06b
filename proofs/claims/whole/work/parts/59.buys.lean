/-! ===== pairs: buys, years (written by wip/gen/gen_buys.py) ===== -/
/-- MONTHS that are bought -/
def jy_b (s : jS) (x1 x3 : Int32) (n : Nat) : Nat → Nat → Nat → jS → Nat × jS
  | 0, _, b, t => (b, t)
  | k + 1, m, b, t => if n ≤ b then (b, t) else if jc_so s m = 0 then jy_b s x1 x3 n k (m + 1) (b + 1) (js_put t x1 3 (nI m) (nI m) x3) else jy_b s x1 x3 n k (m + 1) b t
theorem jy_ok {s : jS} {x1 x3 : Int32} {n : Nat} (h1 : 0 ≤ x1 ∧ x1 ≤ 4) (h3 : 1 ≤ x3 ∧ x3 ≤ 999) (hn : jn s ≤ 20) (hn2 : n ≤ 24) : ∀ k m b t, m + k = 360 → jw t 44 → jn t = jn s + b → b ≤ n → jw (jy_b s x1 x3 n k m b t).2 44
  | 0, _, _, _, _, h, _, _ => h
  | k + 1, m, b, t, e, h, hb, hbn => by
    unfold jy_b
    by_cases c1 : n ≤ b
    · rw [if_pos c1]
      exact h
    rw [if_neg c1]
    by_cases c2 : jc_so s m = 0
    · rw [if_pos c2]
      refine jy_ok h1 h3 hn hn2 k (m + 1) (b + 1) _ (by omega) ?_ (show jn t + 1 = jn s + (b + 1) by omega) (by omega)
      exact jw_put h (by omega) ⟨h1, ⟨by decide, by decide⟩, ⟨nI_pos' (by omega), nI_le (show m ≤ 359 by omega) (by decide)⟩, ⟨Int32.le_refl _, nI_le (show m ≤ 359 by omega) (by decide)⟩, h3⟩
    · rw [if_neg c2]
      exact jy_ok h1 h3 hn hn2 k (m + 1) b t (by omega) h hb hbn
theorem jm_cv_nat (sp : Nat → Int32) (m : Nat) : ∀ n, ∃ k, k ≤ n ∧ jm_cv sp m n = nI k ∧ (k = 0 ↔ ∀ j, j < n → ¬ jm_co sp j m)
  | 0 => ⟨0, Nat.le_refl 0, rfl, ⟨fun _ j h => absurd h (Nat.not_lt_zero j), fun _ => rfl⟩⟩
  | n + 1 => by
    obtain ⟨k, h1, h2, h3⟩ := jm_cv_nat sp m n
    unfold jm_cv
    by_cases hc : jm_co sp n m
    · have hc' := hc
      unfold jm_co at hc'
      rw [if_pos hc', h2, nI_1]
      exact ⟨k + 1, by omega, rfl, ⟨fun e => by omega, fun e => absurd hc (e n (by omega))⟩⟩
    · have hc' := hc
      unfold jm_co at hc'
      rw [if_neg hc', h2]
      refine ⟨k, by omega, rfl, ⟨fun e j hj => ?_, fun e => h3.mpr (fun j hj => e j (by omega))⟩⟩
      by_cases ej : j = n
      · rw [ej]
        exact hc
      · exact h3.mp e j (by omega)
theorem jc_cv0 {s : jS} (h : jw s 44) (m : Nat) : jc_cv s m = 0 ↔ jc_by s m = -1 := by
  have hn := h.1
  obtain ⟨k, h1, h2, h3⟩ := jm_cv_nat (jsp s) m (jn s)
  unfold jc_cv
  rw [h2, nI_eq0 (by omega), h3]
  exact (jm_B_no h.2.1 (by omega)).symm
theorem jc_so00 {s : jS} {m : Nat} : jc_so s m = 0 ↔ jc_so s m ≤ 0 := by
  unfold jc_so
  split
  · split
    · exact ⟨fun _ => by decide, fun _ => rfl⟩
    · exact ⟨fun h => absurd h (by decide), fun h => absurd h (by decide)⟩
  · exact ⟨fun h => absurd h (by decide), fun h => absurd h (by decide)⟩
theorem jm_fc_lt {f : Nat → Int32} : ∀ n k i, k ≤ i → i < k + n → f i ≠ -1 → jm_fc f n k < k + n ∧ jm_fc f n k ≤ i ∧ k ≤ jm_fc f n k
  | 0, k, i, h1, h2, _ => by omega
  | n + 1, k, i, h1, h2, h3 => by
    unfold jm_fc
    by_cases e : f k = -1
    · rw [if_pos e]
      have hne : k ≠ i := fun q => h3 (by rw [← q]; exact e)
      have := jm_fc_lt (f := f) n (k + 1) i (by omega) (by omega) h3
      omega
    · rw [if_neg e]
      omega
section Buys
variable {X : Nat × (Nat → Int32)} {M : Nat → Nat → Int32} {L : Nat → Nat → Int64} {G : Nat → Nat → Option Nat} {Q : am_Q} {s : jS} {a : jA}
theorem ct_firstCovered_s (hk : jkm M 16 s) (hQ : Q (some (some (.int (nI (jm_fc (jc_by s) 360 0))))) (jm_s M L G)) : am_T X 21 0 [some (.ref 16), none] [] (jm_s M L G) (0, 0) Q := by
  refine ct_firstCovered_16 ?_
  have : ∀ n k, k + n = 360 → jm_fc (M 19) n k = jm_fc (jc_by s) n k := by
    intro n
    induction n with
    | zero => intro k _; rfl
    | succ n ih =>
      intro k e
      unfold jm_fc
      rw [show M 19 k = jc_by s k from (hk.1 k (by omega)).2.1, ih (k + 1) (by omega)]
  rw [this 360 0 rfl]
  exact hQ
theorem pp_buys (hA : jAw a) (hC : jC M L G a) (hR : jRR M L a) (x1 x2 x3 : Int32) : jpp X (jm_s M L G) 84 [some (.ref 0), some (.int x1), some (.int x2), some (.int x3), none, none, none] 199 [some (.ref 101), some (.int x1), some (.int x2), some (.int x3), none, none, none] := by
  have hn := hA.1.1
  have hw44 := jw_44 hA.1
  have hS := hC.1.1.1
  have hkm := hC.1.1.2.1
  have hR0 : jR ((wi_m M 101 5 0) 102) (ja_s a) := hR.1.1
  by_cases hv : (0 ≤ x1 ∧ x1 ≤ 4) ∧ (1 ≤ x2 ∧ x2 ≤ 24) ∧ (1 ≤ x3 ∧ x3 ≤ 999)
  · obtain ⟨v1, v2, v3⟩ := hv
    have pre : ∀ Q : am_Q, (((M 5 0) = 0 → Q (some (some (.int (-2)))) (jm_s M L G)) ∧ (¬ (M 5 0) = 0 → (∃ K : am_S → Prop, am_T X 26 0 [some (.ref 10), some (.ref 5)] [] (jm_s M L G) (0, 0) (am_qv K) ∧ ∀ σ', K σ' → am_T X 84 56 [some (.ref 0), some (.int x1), some (.int x2), some (.int x3), none, none, none] [] σ' (0, 0) Q))) → am_T X 84 0 [some (.ref 0), some (.int x1), some (.int x2), some (.int x3), none, none, none] [] (jm_s M L G) (0, 0) Q := by
      intro Q hQ
      refine rg_X5_buys_0_0 (cl_i (fun _ h => ct_isCountryB h) ?_)
      rw [jb_y (decide_eq_true v1)]
      exact rn_X5_buys_0_4 ⟨fun e => absurd e (by decide), fun _ => ⟨fun e => absurd e (Int32.not_lt.mpr v2.1), fun _ => ⟨fun e => absurd e (Int32.not_lt.mpr v2.2), fun _ => ⟨fun e => absurd e (Int32.not_lt.mpr v3.1), fun _ => ⟨fun _ => hQ, fun e => absurd v3.2 e⟩⟩⟩⟩⟩
    have rpre : ∀ M1 L1, jRR M1 L1 a → ∀ Q : am_Q, (((M1 102 0) = 0 → Q (some (some (.int (-2)))) (jm_s (wi_m M1 101 5 0) L1 G)) ∧ (¬ (M1 102 0) = 0 → (∃ K : am_S → Prop, am_T X 184 0 [some (.ref 101), none] [] (jm_s (wi_m M1 101 5 0) L1 G) (0, 0) (am_qv K) ∧ ∀ σ', K σ' → am_T X 199 51 [some (.ref 101), some (.int x1), some (.int x2), some (.int x3), none, none, none] [] σ' (0, 0) Q))) → am_T X 199 0 [some (.ref 101), some (.int x1), some (.int x2), some (.int x3), none, none, none] [] (jm_s M1 L1 G) (0, 0) Q := by
      intro M1 L1 hR1 Q hQ
      refine rg_X6_buys_101_0 (cl_i (fun _ h => ct_risCountry h) ?_)
      rw [jb_y (decide_eq_true v1)]
      refine rn_X6_buys_101_9 ⟨fun e => absurd e (by decide), fun _ => cl_i (fun _ h => ct_in h) ?_⟩
      rw [jb_y (decide_eq_true v2)]
      refine rn_X6_buys_101_19 ⟨fun e => absurd e (by decide), fun _ => cl_i (fun _ h => ct_in h) ?_⟩
      rw [jb_y (decide_eq_true v3)]
      exact rn_X6_buys_101_30 ⟨fun e => absurd e (by decide), fun _ => hQ⟩
    by_cases hz : jn (ja_s a) = 0
    · have e0 : M 5 0 = 0 := by rw [hS.1, hz]; rfl
      have e1 : M 102 0 = 0 := by rw [hR.1.1.1, hz]; rfl
      exact pp_rd hA hC hR (v := -2) (fun Q hQ => pre Q ⟨fun _ => hQ, fun e => absurd e0 e⟩) (fun Q hQ => rpre M L hR Q ⟨fun _ => hQ _ (jfr_0 M 0), fun e => absurd e1 e⟩)
    · obtain ⟨n, hn24, rfl⟩ := nI_of2 (n := 24) (M := 24) (by decide) (Int32.not_lt.mpr (Int32.le_trans (by decide) v2.1)) v2.2
      -- the first covered MONTH
      obtain ⟨c, d, f, t, p, e0, e1, e2, e3, e4, b0, b1, b2, b3, b4, b5⟩ := hA.1.2.1 0 (by omega)
      have hcov : jc_by (ja_s a) f ≠ -1 := by
        intro e
        have := (jm_B_no hA.1.2.1 (show jn (ja_s a) ≤ 64 by omega)).mp e 0 (by omega)
        apply this
        unfold jm_co
        rw [e2, e3]
        exact ⟨Int32.le_refl _, nI_le b2 (by omega)⟩
      obtain ⟨q1, q2, q3⟩ := jm_fc_lt (f := jc_by (ja_s a)) 360 0 f (by omega) (by omega) hcov
      have hwy := jy_ok (s := ja_s a) (x1 := x1) (x3 := x3) (n := n) v1 v3 hn hn24 (360 - jm_fc (jc_by (ja_s a)) 360 0) (jm_fc (jc_by (ja_s a)) 360 0) 0 (ja_s a) (by omega) hw44 rfl (by omega)
      refine pp_wb (v := 100000 + jc_all (jy_b (ja_s a) x1 x3 n (360 - jm_fc (jc_by (ja_s a)) 360 0) (jm_fc (jc_by (ja_s a)) 360 0) 0 (ja_s a)).2 - jc_all (ja_s a)) (l := [(nI (jy_b (ja_s a) x1 x3 n (360 - jm_fc (jc_by (ja_s a)) 360 0) (jm_fc (jc_by (ja_s a)) 360 0) 0 (ja_s a)).1).toInt64]) (Nat.le_of_ble_eq_true rfl) hA hC hR (fun Q hQ => ?_) (fun M1 L1 hR1 Q hQ => ?_)
      · refine pre Q ⟨fun e => ?_, fun _ => cl_v (ct_copy_10_5 hS hn (fun M1 f1 h1 => ⟨rfl, ?_⟩))⟩
        · rw [hS.1] at e
          exact absurd ((nI_eq0 (show jn (ja_s a) < 2147483648 by omega)).mp e) hz
        have hkm1 : jkm M1 16 (ja_s a) := jkm_f hkm (fun q h1 h2 => f1 q (by omega))
        refine rg_X5_buys_0_56 (cl_i (fun _ h => ct_firstCovered_s hkm1 h) (rg_X5_buys_0_73 ?_))
        have l : ∀ k m b t, m + k = 360 → b ≤ n → jn t = jn (ja_s a) + b → jw (jy_b (ja_s a) x1 x3 n k m b t).2 44 → ∀ M2, (∀ q, q < 10 ∨ 14 < q → M2 q = M q) → jh M2 10 t → (∀ M3, (∀ q, q < 10 ∨ (14 < q ∧ q < 31) ∨ (46 < q ∧ q ≠ 100) → M3 q = M q) → Q (some (some (.int (100000 + jc_all (jy_b (ja_s a) x1 x3 n k m b t).2 - jc_all (ja_s a))))) (jm_s (wi_m M3 3 1 (nI 1)) (wls L 4 0 [(nI (jy_b (ja_s a) x1 x3 n k m b t).1).toInt64]) G)) → am_T X 84 75 [some (.ref 0), some (.int x1), some (.int (nI n)), some (.int x3), some (.ref 16), some (.int (nI b)), some (.int (nI m))] [] (jm_s M2 L G) (0, 0) Q := by
          have fin : ∀ b t, jw t 44 → ∀ M2, (∀ q, q < 10 ∨ 14 < q → M2 q = M q) → jh M2 10 t → (∀ M3, (∀ q, q < 10 ∨ (14 < q ∧ q < 31) ∨ (46 < q ∧ q ≠ 100) → M3 q = M q) → Q (some (some (.int (100000 + jc_all t - jc_all (ja_s a))))) (jm_s (wi_m M3 3 1 (nI 1)) (wls L 4 0 [(nI b).toInt64]) G)) → ∃ K : am_S → Prop, am_T X 1 0 [some (.ref 31), some (.ref 10), none] [] (jm_s M2 L G) (0, 0) (am_qv K) ∧ ∀ σ', K σ' → am_T X 84 133 [some (.ref 0), none, none, none, none, some (.int (nI b)), none] [] σ' (0, 0) Q := by
            intro b t ht M2 f2 h2 hq
            refine cl_v (ct_reckon_31_10 h2 ht (fun M3 f3 h3 => ⟨rfl, rg_X5_buys_0_133 (cl_v (ct_clear ⟨rfl, rg_X5_buys_0_140 (cl_v (ct_tell (l := []) (Nat.le_of_ble_eq_true rfl) ⟨rfl, rg_X5_buys_0_150 ?_⟩))⟩))⟩))
            have hq := hq M3 (fun q hq => by rw [f3 q (by omega), f2 q (by omega)])
            have ea : M3 31 12 = jc_all t := h3.2.1.2.2.2.2
            have eb : M3 15 12 = jc_all (ja_s a) := by
              rw [f3 15 (by decide), f2 15 (by decide)]
              exact hC.1.1.2.2.1.2.2.2.2
            rw [← ea, ← eb] at hq
            exact hq
          intro k
          induction k with
          | zero =>
            intro m b t e hb ht hwt M2 f2 h2 hq
            have e2 : m = 360 := e
            subst e2
            exact rn_X5_buys_0_75 ⟨fun _ => fin b t hwt M2 f2 h2 hq, fun h => absurd jm_3e h⟩
          | succ k ih =>
            intro m b t e hb ht hwt M2 f2 h2 hq
            have hm : m < 360 := by omega
            have hkm2 : jkm M2 16 (ja_s a) := jkm_f hkm (fun q h1 h2 => f2 q (by omega))
            unfold jy_b at hwt hq
            refine rn_X5_buys_0_75 ⟨fun h => absurd h (jm_3 hm), fun _ => ⟨fun h => ?_, fun h => cl_i (fun _ h => ct_wayOf_16 hm h) (rn_X5_buys_0_96 ?_)⟩⟩
            · have hnb := (nI_le_iff (show n < 2147483648 by omega) (show b < 2147483648 by omega)).mp h
              rw [if_pos hnb] at hwt
              simp only [if_pos hnb] at hq
              exact fin b t hwt M2 f2 h2 hq
            · have hnb : ¬ n ≤ b := fun q => h ((nI_le_iff (show n < 2147483648 by omega) (show b < 2147483648 by omega)).mpr q)
              have eso : (if M2 19 m = -1 then (if M2 20 m = -1 then (0 : Int32) else 2) else 1) = jc_so (ja_s a) m := by
                rw [show M2 19 m = _ from (hkm2.1 m hm).2.1, show M2 20 m = _ from (hkm2.1 m hm).2.2.1]
                rfl
              rw [eso, nI_1 m]
              rw [if_neg hnb] at hwt
              simp only [if_neg hnb] at hq
              refine ⟨fun h3 => ?_, fun h3 => ?_⟩
              · rw [if_pos h3] at hwt
                simp only [if_pos h3] at hq
                refine cl_v (ct_append_s h2 (by omega) (fun M3 f3 h3 => ⟨rfl, rg_X5_buys_0_113 ?_⟩))
                rw [nI_1, nI_1]
                exact ih (m + 1) (b + 1) _ (by omega) (by omega) (show jn t + 1 = jn (ja_s a) + (b + 1) by omega) hwt M3 (fun q hq => by rw [f3 q hq, f2 q hq]) h3 hq
              · rw [if_neg h3] at hwt
                simp only [if_neg h3] at hq
                exact ih (m + 1) b t (by omega) hb ht hwt M2 f2 h2 hq
        exact l (360 - jm_fc (jc_by (ja_s a)) 360 0) (jm_fc (jc_by (ja_s a)) 360 0) 0 (ja_s a) (by omega) (by omega) rfl hwy M1 f1 h1 hQ
      · have hR01 : jR ((wi_m M1 101 5 0) 102) (ja_s a) := hR1.1.1
        refine rpre M1 L1 hR1 Q ⟨fun e => ?_, fun _ => cl_v (ct_layAside hR01 hw44 (fun M2 f1 f2 h22 h13 ht hL => ⟨rfl, rg_X6_buys_101_51 ?_⟩))⟩
        · rw [hR1.1.1.1] at e
          exact absurd ((nI_eq0 (show jn (ja_s a) < 2147483648 by omega)).mp e) hz
        have ev : ∀ t : jS, (100000 : Int32) + jc_all t - jc_all (ja_s a) = 100000 + (jc_all t - jc_all (ja_s a)) := fun t => by
          rw [Int32.sub_eq_add_neg, Int32.sub_eq_add_neg, Int32.add_assoc]
        have hR2 : jR (M2 102) (ja_s a) := by rw [f1 102 (by decide) (by decide)]; exact hR01
        -- the loop over MONTHS
        have fin : ∀ b t, jw t 44 → ∀ M3, (∀ q, q ≠ 102 → M3 q = M2 q) → jR (M3 102) t → (∀ M4, (∀ q, q < 101 → M4 q = M1 q) → jRR M4 (wls L1 104 0 [(nI b).toInt64]) (ja_w a [(nI b).toInt64]) → Q (some (some (.int (100000 + jc_all t - jc_all (ja_s a))))) (jm_s M4 (wls L1 104 0 [(nI b).toInt64]) G)) → ∃ K : Int32 → am_S → Prop, am_T X 168 0 [some (.ref 101), none, none] [] (jm_s M3 L1 G) (0, 0) (am_qi K) ∧ ∀ v σ', K v σ' → am_T X 199 128 [some (.ref 101), none, none, none, none, some (.int (nI b)), none] [(.int v)] σ' (0, 0) Q := by
          intro b t ht M3 g1 g2 hq
          refine cl_w (ct_allOf g2 ht (fun M4 k1 k2 hL4 => ⟨_, rfl, rg_X6_buys_101_128 ?_⟩))
          rw [k2 22 (by decide), g1 101 (by decide), h22]
          refine cl_v (ct_comesBack (fun M5 u1 u2 => ⟨rfl, rg_X6_buys_101_139 (cl_v (ct_rtell (l := []) (Nat.le_of_ble_eq_true rfl) ⟨rfl, rg_X6_buys_101_151 ?_⟩))⟩))
          have e113 : M4 113 = M2 113 := by rw [k1 113 (by decide) (by decide), g1 113 (by decide)]
          have hq := hq (wi_m M5 101 4 (nI 1)) (fun q hq => by rw [wi_m_p _ _ (by omega), u1 q (by omega), k1 q (by omega) (by omega), g1 q (by omega), f1 q (by omega) (by omega), wi_m_p _ _ (by omega)]) (jRR_wb hR1 (fun q q1 q2 q3 => by rw [wi_m_p _ _ q1, u1 q q2, k1 q q1 (by omega), g1 q q2, f1 q q1 (by omega), wi_m_p _ _ q1]) (fun i q1 q2 q3 q4 _ => by rw [wi_m_eq, if_pos rfl, if_neg q1, u1 101 (by decide), k2 i q3, g1 101 (by decide), f2 i q3 q4, wi_m_eq, if_pos rfl, if_neg q2]) (wi_m_i _ _ _ _) (by
            rw [wi_m_p _ _ (show 102 ≠ 101 by decide)]
            exact jR_f h13 (fun i hi => by rw [u2 i hi, e113]) (by omega)))
          rw [ev] at hq
          exact hq
        have l : ∀ k m b t, m + k = 360 → b ≤ n → jn t = jn (ja_s a) + b → jw (jy_b (ja_s a) x1 x3 n k m b t).2 44 → ∀ M3, (∀ q, q ≠ 102 → M3 q = M2 q) → jR (M3 102) t → (∀ M4, (∀ q, q < 101 → M4 q = M1 q) → jRR M4 (wls L1 104 0 [(nI (jy_b (ja_s a) x1 x3 n k m b t).1).toInt64]) (ja_w a [(nI (jy_b (ja_s a) x1 x3 n k m b t).1).toInt64]) → Q (some (some (.int (100000 + jc_all (jy_b (ja_s a) x1 x3 n k m b t).2 - jc_all (ja_s a))))) (jm_s M4 (wls L1 104 0 [(nI (jy_b (ja_s a) x1 x3 n k m b t).1).toInt64]) G)) → am_T X 199 77 [some (.ref 101), some (.int x1), some (.int (nI n)), some (.int x3), none, some (.int (nI b)), some (.int (nI m))] [] (jm_s M3 L1 G) (0, 0) Q := by
          intro k
          induction k with
          | zero =>
            intro m b t e hb ht' hwt M3 g1 g2 hq
            have e2 : m = 360 := e
            subst e2
            exact rn_X6_buys_101_77 ⟨fun _ => fin b t hwt M3 g1 g2 hq, fun h => absurd jm_3e h⟩
          | succ k ih =>
            intro m b t e hb ht' hwt M3 g1 g2 hq
            have hm : m < 360 := by omega
            unfold jy_b at hwt hq
            refine rn_X6_buys_101_77 ⟨fun h => absurd h (jm_3 hm), fun _ => ⟨fun h => ?_, fun h => ⟨jm_in hm, ?_⟩⟩⟩
            · have hnb := (nI_le_iff (show n < 2147483648 by omega) (show b < 2147483648 by omega)).mp h
              rw [if_pos hnb] at hwt
              simp only [if_pos hnb] at hq
              exact fin b t hwt M3 g1 g2 hq
            · have hnb : ¬ n ≤ b := fun q => h ((nI_le_iff (show n < 2147483648 by omega) (show b < 2147483648 by omega)).mpr q)
              rw [jm_cl hm, g1 116 (by decide), (ht m hm).2.2, nI_1 m, ← jc_so00]
              rw [if_neg hnb] at hwt
              simp only [if_neg hnb] at hq
              refine ⟨fun h3 => ?_, fun h3 => ?_⟩
              · rw [if_pos h3] at hwt
                simp only [if_pos h3] at hq
                refine cl_v (ct_put g2 (by omega) (fun M4 f4 h4 => ⟨rfl, rg_X6_buys_101_115 ?_⟩))
                rw [nI_1, nI_1]
                exact ih (m + 1) (b + 1) _ (by omega) (by omega) (show jn t + 1 = jn (ja_s a) + (b + 1) by omega) hwt M4 (fun q hq => by rw [f4 q hq, g1 q hq]) h4 hq
              · rw [if_neg h3] at hwt
                simp only [if_neg h3] at hq
                exact ih (m + 1) b t (by omega) hb ht' hwt M3 g1 g2 hq
        -- the first one
        have mono : ∀ k m, m ≤ jm_fc (jc_by (ja_s a)) k m := by
          intro k
          induction k with
          | zero => intro m; exact Nat.le_refl m
          | succ k ih =>
            intro m
            unfold jm_fc
            split
            · exact Nat.le_trans (Nat.le_succ m) (ih (m + 1))
            · exact Nat.le_refl m
        have w : ∀ F, F = jm_fc (jc_by (ja_s a)) 360 0 → F < 360 → ∀ k m, m + k = 360 → m ≤ F → jm_fc (jc_by (ja_s a)) k m = F → am_T X 199 54 [some (.ref 101), some (.int x1), some (.int (nI n)), some (.int x3), some (.int (nI m)), none, none] [] (jm_s M2 L1 G) (0, 0) Q := by
          intro F hF hF3 k
          induction k with
          | zero =>
            intro m e h1 h2
            omega
          | succ k ih =>
            intro m e h1 h2
            have hm : m < 360 := by omega
            unfold jm_fc at h2
            refine rn_X6_buys_101_54 ⟨jm_in hm, ?_⟩
            rw [jm_cl hm, (hL.1 m hm).2.2.2.2, jc_cv0 hw44, nI_1]
            refine ⟨fun h => ?_, fun h => ?_⟩
            · rw [if_pos h] at h2
              have h5 := mono k (m + 1)
              rw [h2] at h5
              exact ih (m + 1) (by omega) (by omega) h2
            · rw [if_neg h] at h2
              rw [h2, hF]
              exact l (360 - jm_fc (jc_by (ja_s a)) 360 0) (jm_fc (jc_by (ja_s a)) 360 0) 0 (ja_s a) (by omega) (by omega) rfl hwy M2 (fun _ _ => rfl) hR2 hQ
        exact w _ rfl (by omega) 360 0 rfl (Nat.zero_le _) rfl
  · refine pp_rd hA hC hR (v := -1) (fun Q hQ => rg_X5_buys_0_0 (cl_i (fun _ h => ct_isCountryB h) (rn_X5_buys_0_4 ?_))) (fun Q hQ => rg_X6_buys_101_0 (cl_i (fun _ h => ct_risCountry h) (rn_X6_buys_101_9 ?_)))
    · by_cases v1 : 0 ≤ x1 ∧ x1 ≤ 4
      · rw [jb_y (decide_eq_true v1)]
        refine ⟨fun e => absurd e (by decide), fun _ => ⟨fun _ => hQ, fun h1 => ⟨fun _ => hQ, fun h2 => ⟨fun _ => hQ, fun h3 => ⟨fun h4 => ?_, fun _ => hQ⟩⟩⟩⟩⟩
        exact absurd ⟨v1, ⟨Int32.not_lt.mp h1, Int32.not_lt.mp h2⟩, ⟨Int32.not_lt.mp h3, h4⟩⟩ hv
      · rw [jb_n (decide_eq_false v1)]
        exact ⟨fun _ => hQ, fun e => absurd rfl e⟩
    · have hQ := hQ _ (jfr_0 M 0)
      by_cases v1 : 0 ≤ x1 ∧ x1 ≤ 4
      · rw [jb_y (decide_eq_true v1)]
        refine ⟨fun e => absurd e (by decide), fun _ => cl_i (fun _ h => ct_in h) (rn_X6_buys_101_19 ?_)⟩
        by_cases v2 : 1 ≤ x2 ∧ x2 ≤ 24
        · rw [jb_y (decide_eq_true v2)]
          refine ⟨fun e => absurd e (by decide), fun _ => cl_i (fun _ h => ct_in h) (rn_X6_buys_101_30 ?_)⟩
          by_cases v3 : 1 ≤ x3 ∧ x3 ≤ 999
          · exact absurd ⟨v1, v2, v3⟩ hv
          · rw [jb_n (decide_eq_false v3)]
            exact ⟨fun _ => hQ, fun e => absurd rfl e⟩
        · rw [jb_n (decide_eq_false v2)]
          exact ⟨fun _ => hQ, fun e => absurd rfl e⟩
      · rw [jb_n (decide_eq_false v1)]
        exact ⟨fun _ => hQ, fun e => absurd rfl e⟩
end Buys
