/-! ===== pairs: more of what is paid (written by wip/gen/gen_pp2.py) ===== -/
/-- when n MONTHS from m on, and f behind them, are enough -/
def jm_ea (ld : Nat → Int32) (x nd : Int32) : Nat → Nat → Int32 → Int32
  | 0, _, _ => -2
  | n + 1, m, f => if ld m = x then (if f + 1 < nd then jm_ea ld x nd n (m + 1) (f + 1) else nI m) else (if f < nd then jm_ea ld x nd n (m + 1) f else nI m)
def jm_ab (lw : Nat → Int32) (x : Int32) : Nat → Int32
  | 0 => 0
  | k + 1 => if x < lw (4 * k + 3) then jm_ab lw x k else jm_ab lw x k ||| ((1 : Int32) <<< (nI k &&& 31))
def jm_mo (py : Nat → Int32) : Nat → Nat
  | 0 => 0
  | k + 1 => if py (k + 1) ≤ py (jm_mo py k) then jm_mo py k else k + 1
theorem jm_mo_le (py : Nat → Int32) : ∀ k, jm_mo py k ≤ k
  | 0 => Nat.le_refl 0
  | k + 1 => by
    have := jm_mo_le py k
    unfold jm_mo
    split <;> omega
theorem rp_X5_missing_0_47 {X : Nat × (Nat → Int32)} {M : Nat → Nat → Int32} {L : Nat → Nat → Int64} {G : Nat → Nat → Option Nat} {Q : am_Q} {x2 : Int32} {c : Nat} (hc : c < 5) (h : Q (some (some (.int (if 0 < (x2 - (M 24 c)) then (x2 - (M 24 c)) else 0)))) (jm_s M L G)) : am_T X 85 47 [some (.ref 0), some (.int (nI c)), some (.int x2)] [] (jm_s M L G) (0, 0) Q := rg_X5_missing_0_47 (by
  rw [nI_clamp (show c < 2147483648 by omega)]
  exact ⟨(vp_in_nI hc (by decide)), h⟩)
theorem rp_X5_earns_0_24s {X : Nat × (Nat → Int32)} {M : Nat → Nat → Int32} {L : Nat → Nat → Int64} {G : Nat → Nat → Option Nat} {Q : am_Q} {x1 : Int32} {x2 : Int32} {x3 : Int32} {m : Nat} (hk : m < 360) (h : (((M 20 m) = x1 → (((x3 + 1) < x2 → (am_T X 86 24 [some (.ref 0), some (.int x1), some (.int x2), some (.int (x3 + 1)), some (.int (nI (m + 1)))] [] (jm_s M L G) (0, 0) Q)) ∧ (¬ (x3 + 1) < x2 → (Q (some (some (.int (nI m)))) (jm_s M L G))))) ∧ (¬ (M 20 m) = x1 → ((x3 < x2 → (am_T X 86 24 [some (.ref 0), some (.int x1), some (.int x2), some (.int x3), some (.int (nI (m + 1)))] [] (jm_s M L G) (0, 0) Q)) ∧ (¬ x3 < x2 → (Q (some (some (.int (nI m)))) (jm_s M L G))))))) : am_T X 86 24 [some (.ref 0), some (.int x1), some (.int x2), some (.int x3), some (.int (nI m))] [] (jm_s M L G) (0, 0) Q := rg_X5_earns_0_24 (by
  rw [nI_clamp (show m < 2147483648 by omega), nI_1 m]
  exact ⟨fun e => absurd e (nI_ge hk (by decide)), fun _ => ⟨(vp_in_nI hk (by decide)), ⟨fun e1 => ⟨fun e2 => ((h.2 e1).1 e2), fun e2 => ((h.2 e1).2 e2)⟩, fun e1 => ⟨fun e2 => ((h.1 e1).1 e2), fun e2 => ((h.1 e1).2 e2)⟩⟩⟩⟩)
theorem rp_X5_earns_0_24e {X : Nat × (Nat → Int32)} {M : Nat → Nat → Int32} {L : Nat → Nat → Int64} {G : Nat → Nat → Option Nat} {Q : am_Q} {x1 : Int32} {x2 : Int32} {x3 : Int32}  (h : Q (some (some (.int (-2)))) (jm_s M L G)) : am_T X 86 24 [some (.ref 0), some (.int x1), some (.int x2), some (.int x3), some (.int (nI 360))] [] (jm_s M L G) (0, 0) Q := rg_X5_earns_0_24 (by
  rw [nI_clamp (show 360 < 2147483648 by omega), nI_1 360]
  exact ⟨fun _ => h, fun e => absurd (nI_le (Nat.le_refl 360) (by decide)) e⟩)
section PP2
variable {X : Nat × (Nat → Int32)} {M : Nat → Nat → Int32} {L : Nat → Nat → Int64} {G : Nat → Nat → Option Nat} {Q : am_Q} {a : jA}
theorem pp_missing (hA : jAw a) (hC : jC M L G a) (hR : jRR M L a) (x : Int32) : jpp X (jm_s M L G) 85 [some (.ref 0), some (.int x), none] 200 [some (.ref 101), some (.int x), none] := by
  have hw := jw_44 hA.1
  obtain ⟨k1, ⟨k2, k3, k4, k5, k6⟩, k7⟩ := hC.1.1.2
  rcases jx_case 5 (by decide) x with h | ⟨c, hc, rfl⟩
  · refine pp_rd hA hC hR (v := -1) (fun Q hQ => rg_X5_missing_0_0 (cl_i (fun _ h' => ct_isCountry_n h h') (rn_X5_missing_0_4 ⟨fun _ => hQ, fun e => absurd rfl e⟩))) (fun Q hQ => rg_X6_missing_101_0 (cl_i (fun _ h' => ct_risCountry h') ?_))
    rw [rc_n h]
    exact rn_X6_missing_101_9 ⟨fun _ => hQ _ (jfr_0 M 0), fun e => absurd rfl e⟩
  · obtain ⟨c1, c2, c3, c4, c5, c6, c7⟩ := k7 c hc
    have a3 := hC.1.1.1.2.2.1 (4 * c + 0) (by omega)
    refine pp_ro hA hC hR (v := if 0 < jlw (ja_s a) (4 * c + 0) - jc_ow (ja_s a) c then jlw (ja_s a) (4 * c + 0) - jc_ow (ja_s a) c else 0) [(if 0 < jlw (ja_s a) (4 * c + 0) - jc_J (ja_s a) then jlw (ja_s a) (4 * c + 0) - jc_J (ja_s a) else 0).toInt64] (Nat.le_of_ble_eq_true rfl) (fun Q hQ => ?_) (fun M1 L1 hR1 Q hQ => ?_)
    · rw [← c1, ← k2, ← a3] at hQ
      refine rg_X5_missing_0_0 (cl_i (fun _ h => ct_isCountry_y hc h) (rn_X5_missing_0_4 ⟨fun e => absurd e (by decide), fun _ => cl_i (fun _ h => ct_lawOf_5 (w := 0) (by omega) h) (rg_X5_missing_0_18 (cl_v (ct_clear ⟨rfl, ?_⟩)))⟩))
      exact rg_X5_missing_0_26 (cl_v (ct_tell (l := []) (Nat.le_of_ble_eq_true rfl) ⟨rfl, rp_X5_missing_0_47 hc hQ⟩))
    · refine rg_X6_missing_101_0 (cl_i (fun _ h' => ct_risCountry h') ?_)
      rw [rc_y hc]
      refine rn_X6_missing_101_9 ⟨fun e => absurd e (by decide), fun _ => cl_v (ct_lay0 hR1.1.1 hw (fun M2 f hL hR2 => ⟨rfl, rg_X6_missing_101_18 ?_⟩))⟩
      have hQ := hQ M2 f
      rw [show ((221 : Int32) + (4 : Int32) * nI c) + 0 = nI (221 + (4 * c + 0)) from jr_law c 0, nI_clamp (show 221 + (4 * c + 0) < 2147483648 by omega), hR2.2.2.1 (4 * c + 0) (by omega)]
      refine ⟨vp_in_nI (by omega) (by decide), ?_⟩
      exact cl_i (fun _ h => ct_totalOf (jL_w hL (by decide)) hw h) (rg_X6_missing_101_45 (cl_v (ct_rtell (l := []) (Nat.le_of_ble_eq_true rfl) ⟨rfl, rg_X6_missing_101_53 (cl_i (fun _ h => ct_ownOf (jL_w hL (by decide)) hw hc h) (rg_X6_missing_101_60 hQ))⟩)))
theorem pp_earns (hA : jAw a) (hC : jC M L G a) (hR : jRR M L a) (x : Int32) : jpp X (jm_s M L G) 86 [some (.ref 0), some (.int x), none, none, none] 201 [some (.ref 101), some (.int x), none, none] := by
  have hw := jw_44 hA.1
  obtain ⟨k1, ⟨k2, k3, k4, k5, k6⟩, k7⟩ := hC.1.1.2
  rcases jx_case 5 (by decide) x with h | ⟨c, hc, rfl⟩
  · refine pp_rd hA hC hR (v := -1) (fun Q hQ => rg_X5_earns_0_0 (cl_i (fun _ h' => ct_isCountry_n h h') (rn_X5_earns_0_4 ⟨fun _ => hQ, fun e => absurd rfl e⟩))) (fun Q hQ => rg_X6_earns_101_0 (cl_i (fun _ h' => ct_risCountry h') ?_))
    rw [rc_n h]
    exact rn_X6_earns_101_9 ⟨fun _ => hQ _ (jfr_0 M 0), fun e => absurd rfl e⟩
  · have a3 := hC.1.1.1.2.2.1 (4 * c + 0) (by omega)
    refine pp_rd hA hC hR (v := jm_ea (jc_ld (ja_s a)) (nI c) (jlw (ja_s a) (4 * c + 0)) 360 0 0) (fun Q hQ => ?_) (fun Q hQ => ?_)
    · refine rg_X5_earns_0_0 (cl_i (fun _ h => ct_isCountry_y hc h) (rn_X5_earns_0_4 ⟨fun e => absurd e (by decide), fun _ => cl_i (fun _ h => ct_lawOf_5 (w := 0) (by omega) h) (rg_X5_earns_0_18 ?_)⟩))
      rw [a3]
      have l : ∀ n m f, m + n = 360 → Q (some (some (.int (jm_ea (jc_ld (ja_s a)) (nI c) (jlw (ja_s a) (4 * c + 0)) n m f)))) (jm_s M L G) → am_T X 86 24 [some (.ref 0), some (.int (nI c)), some (.int (jlw (ja_s a) (4 * c + 0))), some (.int f), some (.int (nI m))] [] (jm_s M L G) (0, 0) Q := by
        intro n
        induction n with
        | zero =>
          intro m f e hq
          have e2 : m = 360 := e
          subst e2
          exact rp_X5_earns_0_24e hq
        | succ n ih =>
          intro m f e hq
          have hm : m < 360 := by omega
          unfold jm_ea at hq
          refine rp_X5_earns_0_24s hm ?_
          rw [show M 20 m = jc_ld (ja_s a) m from (k1.1 m hm).2.2.1]
          refine ⟨fun h1 => ⟨fun h2 => ?_, fun h2 => ?_⟩, fun h1 => ⟨fun h2 => ?_, fun h2 => ?_⟩⟩
          · rw [if_pos h1, if_pos h2] at hq
            exact ih (m + 1) _ (by omega) hq
          · rw [if_pos h1, if_neg h2] at hq
            exact hq
          · rw [if_neg h1, if_pos h2] at hq
            exact ih (m + 1) _ (by omega) hq
          · rw [if_neg h1, if_neg h2] at hq
            exact hq
      exact l 360 0 0 rfl hQ
    · refine rg_X6_earns_101_0 (cl_i (fun _ h' => ct_risCountry h') ?_)
      rw [rc_y hc]
      refine rn_X6_earns_101_9 ⟨fun e => absurd e (by decide), fun _ => cl_v (ct_lay0 hR.1.1 hw (fun M2 f hL hR2 => ⟨rfl, rg_X6_earns_101_18 ?_⟩))⟩
      have hQ := hQ M2 f
      have l : ∀ n m f, m + n = 360 → Q (some (some (.int (jm_ea (jc_ld (ja_s a)) (nI c) (jlw (ja_s a) (4 * c + 0)) n m f)))) (jm_s M2 L G) → am_T X 201 22 [some (.ref 101), some (.int (nI c)), some (.int f), some (.int (nI m))] [] (jm_s M2 L G) (0, 0) Q := by
        intro n
        induction n with
        | zero =>
          intro m f e hq
          have e2 : m = 360 := e
          subst e2
          exact rn_X6_earns_101_22 ⟨fun _ => hq, fun h => absurd jm_3e h⟩
        | succ n ih =>
          intro m f e hq
          have hm : m < 360 := by omega
          unfold jm_ea at hq
          refine rn_X6_earns_101_22 ⟨fun h => absurd h (jm_3 hm), fun _ => ⟨jm_in hm, ?_⟩⟩
          rw [show ((221 : Int32) + (4 : Int32) * nI c) + 0 = nI (221 + (4 * c + 0)) from jr_law c 0, nI_clamp (show 221 + (4 * c + 0) < 2147483648 by omega), hR2.2.2.1 (4 * c + 0) (by omega), jm_cl hm, nI_1 m, (hL.1 m hm).2.1]
          have hv : vp_in (nI (221 + (4 * c + 0))) 277 := vp_in_nI (by omega) (by decide)
          refine ⟨fun h1 => ⟨hv, fun h2 => ?_, fun h2 => ?_⟩, fun h1 => ⟨hv, fun h2 => ?_, fun h2 => ?_⟩⟩
          · rw [if_pos h1, if_pos h2] at hq
            exact ih (m + 1) _ (by omega) hq
          · rw [if_pos h1, if_neg h2] at hq
            exact hq
          · rw [Int32.add_zero] at h2
            rw [if_neg h1, if_pos h2] at hq
            rw [Int32.add_zero]
            exact ih (m + 1) _ (by omega) hq
          · rw [Int32.add_zero] at h2
            rw [if_neg h1, if_neg h2] at hq
            exact hq
      exact l 360 0 0 rfl hQ
theorem pp_at (hA : jAw a) (hC : jC M L G a) (hR : jRR M L a) (x : Int32) : jpp X (jm_s M L G) 75 [some (.ref 0), some (.int x), none, none, none] 182 [some (.ref 101), some (.int x), none, none, none, none] := by
  have hw := jw_44 hA.1
  obtain ⟨k1, ⟨k2, k3, k4, k5, k6⟩, k7⟩ := hC.1.1.2
  rcases jx_case 360 (by decide) x with h | ⟨m, hm, rfl⟩
  · refine pp_rd hA hC hR (v := -1) (fun Q hQ => rg_X5_at_0_0 (cl_i (fun _ h' => ct_isMonth_n h h') (rn_X5_at_0_4 ⟨fun _ => hQ, fun e => absurd rfl e⟩))) (fun Q hQ => rg_X6_at_101_0 (cl_i (fun _ h' => ct_risMonth h') ?_))
    rw [rm_n h]
    exact rn_X6_at_101_9 ⟨fun _ => hQ _ (jfr_0 M 0), fun e => absurd rfl e⟩
  · have a3 : ∀ k, k < 5 → M 6 (4 * k + 3) = jlw (ja_s a) (4 * k + 3) := fun k hk => hC.1.1.1.2.2.1 (4 * k + 3) (by omega)
    refine pp_ro hA hC hR (v := jm_sm (fun c => if nI m < jlw (ja_s a) (4 * c + 3) then 0 else jc_py (ja_s a) c) 5) [(jm_ab (jlw (ja_s a)) (nI m) 5).toInt64, (jc_all (ja_s a)).toInt64] (Nat.le_of_ble_eq_true rfl) (fun Q hQ => ?_) (fun M1 L1 hR1 Q hQ => ?_)
    · refine rg_X5_at_0_0 (cl_i (fun _ h => ct_isMonth_y hm h) (rn_X5_at_0_4 ⟨fun e => absurd e (by decide), fun _ => ?_⟩))
      refine lp_dn (P := fun k => am_T X 75 16 [some (.ref 0), some (.int (nI m)), some (.int (jm_sm (fun c => if nI m < jlw (ja_s a) (4 * c + 3) then 0 else jc_py (ja_s a) c) k)), some (.int (jm_ab (jlw (ja_s a)) (nI m) k)), some (.int (nI k))] [] (jm_s M L G) (0, 0) Q) 5 ?_ ?_ 0 (by decide)
      · rw [← k6] at hQ
        exact rn_X5_at_0_16 ⟨fun _ => cl_v (ct_clear ⟨rfl, rg_X5_at_0_68 (cl_v (ct_tell (l := []) (Nat.le_of_ble_eq_true rfl) ⟨rfl, rg_X5_at_0_77 (cl_v (ct_tell (l := [_]) (Nat.le_of_ble_eq_true rfl) ⟨rfl, rg_X5_at_0_92 hQ⟩))⟩))⟩), fun h => absurd (nI_le (Nat.le_refl 5) (by decide)) h⟩
      · intro k hk ih
        rw [jm_sm_s, jm_ab] at ih
        refine rn_X5_at_0_16 ⟨fun h => absurd h (nI_ge hk (by decide)), fun _ => cl_i (fun _ h => ct_lawOf_5 (w := 3) (by omega) h) (rn_X5_at_0_32 ?_)⟩
        rw [a3 k hk, nI_1]
        refine ⟨fun h => ?_, fun h => ?_⟩
        · rw [if_pos h, if_pos h, Int32.add_zero] at ih
          exact ih
        · rw [if_neg h, if_neg h] at ih
          refine cl_i (fun _ h => ct_paysOf_15 hk h) (rg_X5_at_0_46 ?_)
          have ep : (if M 28 k < M 30 k then M 30 k else M 28 k) = jc_py (ja_s a) k := by
            obtain ⟨c1, c2, c3, c4, c5, c6, c7⟩ := k7 k hk
            rw [show M 28 k = _ from c5, show M 30 k = _ from c7]
            rfl
          rw [ep, nI_1]
          exact ih
    · refine rg_X6_at_101_0 (cl_i (fun _ h' => ct_risMonth h') ?_)
      rw [rm_y hm]
      refine rn_X6_at_101_9 ⟨fun e => absurd e (by decide), fun _ => cl_w (ct_all0 hR1.1.1 hw (fun M2 f hL hR2 => ⟨_, rfl, rg_X6_at_101_18 ?_⟩))⟩
      have hQ := hQ M2 f
      refine lp_dn (P := fun k => am_T X 182 27 [some (.ref 101), some (.int (nI m)), some (.int (jc_all (ja_s a))), some (.int (jm_ab (jlw (ja_s a)) (nI m) k)), some (.int (jm_sm (fun c => if nI m < jlw (ja_s a) (4 * c + 3) then 0 else jc_py (ja_s a) c) k)), some (.int (nI k))] [] (jm_s M2 L1 G) (0, 0) Q) 5 ?_ ?_ 0 (by decide)
      · exact rn_X6_at_101_27 ⟨fun _ => cl_v (ct_rtell (l := []) (Nat.le_of_ble_eq_true rfl) ⟨rfl, rg_X6_at_101_90 (cl_v (ct_rtell (l := [_]) (Nat.le_of_ble_eq_true rfl) ⟨rfl, rg_X6_at_101_96 hQ⟩))⟩), fun h => absurd (nI_le (Nat.le_refl 5) (by decide)) h⟩
      · intro k hk ih
        rw [jm_sm_s, jm_ab] at ih
        refine rn_X6_at_101_27 ⟨fun h => absurd h (nI_ge hk (by decide)), fun _ => ?_⟩
        rw [show ((221 : Int32) + (4 : Int32) * nI k) + 3 = nI (221 + (4 * k + 3)) from jr_law k 3, nI_clamp (show 221 + (4 * k + 3) < 2147483648 by omega), hR2.2.2.1 (4 * k + 3) (by omega), nI_1]
        refine ⟨vp_in_nI (by omega) (by decide), fun h => ?_, fun h => ?_⟩
        · have h' := Int32.not_lt.mpr h
          rw [if_neg h', if_neg h'] at ih
          refine cl_i (fun _ h => ct_paidOf hL hR2 hw hk h) (rg_X6_at_101_70 ?_)
          rw [nI_1]
          exact ih
        · have h' := Int32.not_le.mp h
          rw [if_pos h', if_pos h', Int32.add_zero] at ih
          exact ih
theorem pp_most (hA : jAw a) (hC : jC M L G a) (hR : jRR M L a) : jpp X (jm_s M L G) 76 [some (.ref 0), none, none] 183 [some (.ref 101), none, none, none] := by
  have hw := jw_44 hA.1
  obtain ⟨k1, ⟨k2, k3, k4, k5, k6⟩, k7⟩ := hC.1.1.2
  have ep : ∀ c, c < 5 → (if M 28 c < M 30 c then M 30 c else M 28 c) = jc_py (ja_s a) c := by
    intro c hc
    obtain ⟨c1, c2, c3, c4, c5, c6, c7⟩ := k7 c hc
    rw [show M 28 c = _ from c5, show M 30 c = _ from c7]
    rfl
  by_cases hz : jc_all (ja_s a) = 0
  · refine pp_rd hA hC hR (v := -2) (fun Q hQ => rn_X5_most_0_0 ⟨fun _ => hQ, fun e => absurd (k6.trans hz) e⟩) (fun Q hQ => rg_X6_most_101_0 (cl_w (ct_all0 hR.1.1 hw (fun M2 f hL hR2 => ⟨_, rfl, rn_X6_most_101_9 ⟨fun _ => hQ M2 f, fun e => absurd hz e⟩⟩))))
  · have hz2 : ¬ M 15 12 = 0 := by
      rw [k6]
      exact hz
    have b4 := jm_mo_le (jc_py (ja_s a)) 4
    refine pp_ro hA hC hR (v := nI (jm_mo (jc_py (ja_s a)) 4)) [(jc_py (ja_s a) (jm_mo (jc_py (ja_s a)) 4)).toInt64, (jc_py (ja_s a) (jm_mo (jc_py (ja_s a)) 4) * 100 / jc_all (ja_s a)).toInt64] (Nat.le_of_ble_eq_true rfl) (fun Q hQ => ?_) (fun M1 L1 hR1 Q hQ => ?_)
    · refine rn_X5_most_0_0 ⟨fun e => absurd e hz2, fun _ => ?_⟩
      refine lp_dn (P := fun k => am_T X 76 17 [some (.ref 0), some (.int (nI (jm_mo (jc_py (ja_s a)) k))), some (.int (nI (k + 1)))] [] (jm_s M L G) (0, 0) Q) 4 ?_ ?_ 0 (by decide)
      · refine rn_X5_most_0_17 ⟨fun _ => cl_v (ct_clear ⟨rfl, rg_X5_most_0_56 (cl_i (fun _ h => ct_paysOf_15 (show jm_mo (jc_py (ja_s a)) 4 < 5 by omega) h) (rg_X5_most_0_68 (cl_v (ct_tell (l := []) (Nat.le_of_ble_eq_true rfl) ⟨rfl, rg_X5_most_0_72 (cl_i (fun _ h => ct_paysOf_15 (show jm_mo (jc_py (ja_s a)) 4 < 5 by omega) h) (rn_X5_most_0_84 ⟨hz2, cl_v (ct_tell (l := [_]) (Nat.le_of_ble_eq_true rfl) ⟨rfl, rg_X5_most_0_99 ?_⟩)⟩))⟩))))⟩), fun h => absurd (nI_le (Nat.le_refl 5) (by decide)) h⟩
        rw [← ep _ (show jm_mo (jc_py (ja_s a)) 4 < 5 by omega), ← k6] at hQ
        exact hQ
      · intro k hk ih
        have bk := jm_mo_le (jc_py (ja_s a)) k
        rw [jm_mo] at ih
        refine rn_X5_most_0_17 ⟨fun h => absurd h (nI_ge (show k + 1 < 5 by omega) (by decide)), fun _ => cl_i (fun _ h => ct_paysOf_15 (show k + 1 < 5 by omega) h) (rg_X5_most_0_30 (cl_i (fun _ h => ct_paysOf_15 (show jm_mo (jc_py (ja_s a)) k < 5 by omega) h) (rn_X5_most_0_38 ?_)))⟩
        rw [ep _ (show k + 1 < 5 by omega), ep _ (show jm_mo (jc_py (ja_s a)) k < 5 by omega), nI_1]
        refine ⟨fun h => ?_, fun h => ?_⟩
        · rw [if_pos h] at ih
          exact ih
        · rw [if_neg h] at ih
          exact ih
    · refine rg_X6_most_101_0 (cl_w (ct_all0 hR1.1.1 hw (fun M2 f hL hR2 => ⟨_, rfl, rn_X6_most_101_9 ⟨fun e => absurd e hz, fun _ => ?_⟩⟩)))
      have hQ := hQ M2 f
      refine lp_dn (P := fun k => am_T X 183 21 [some (.ref 101), some (.int (jc_all (ja_s a))), some (.int (nI (jm_mo (jc_py (ja_s a)) k))), some (.int (nI (k + 1)))] [] (jm_s M2 L1 G) (0, 0) Q) 4 ?_ ?_ 0 (by decide)
      · rw [Int32.mul_comm] at hQ
        exact rn_X6_most_101_21 ⟨fun _ => cl_i (fun _ h => ct_paidOf (jL_w hL (by decide)) hR2 hw (show jm_mo (jc_py (ja_s a)) 4 < 5 by omega) h) (rg_X6_most_101_58 (cl_v (ct_rtell (l := []) (Nat.le_of_ble_eq_true rfl) ⟨rfl, rg_X6_most_101_62 (cl_i (fun _ h => ct_paidOf (jL_w hL (by decide)) hR2 hw (show jm_mo (jc_py (ja_s a)) 4 < 5 by omega) h) (rn_X6_most_101_70 ⟨hz, cl_v (ct_rtell (l := [_]) (Nat.le_of_ble_eq_true rfl) ⟨rfl, rg_X6_most_101_77 hQ⟩)⟩))⟩))), fun h => absurd (nI_le (Nat.le_refl 5) (by decide)) h⟩
      · intro k hk ih
        have bk := jm_mo_le (jc_py (ja_s a)) k
        rw [jm_mo] at ih
        refine rn_X6_most_101_21 ⟨fun h => absurd h (nI_ge (show k + 1 < 5 by omega) (by decide)), fun _ => cl_i (fun _ h => ct_paidOf hL hR2 hw (show k + 1 < 5 by omega) h) (rg_X6_most_101_31 (cl_i (fun _ h => ct_paidOf hL hR2 hw (show jm_mo (jc_py (ja_s a)) k < 5 by omega) h) (rn_X6_most_101_36 ?_)))⟩
        rw [nI_1]
        refine ⟨fun h => ?_, fun h => ?_⟩
        · rw [if_pos h] at ih
          exact ih
        · rw [if_neg h] at ih
          exact ih
end PP2
