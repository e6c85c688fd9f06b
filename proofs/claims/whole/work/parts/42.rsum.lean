/-! ===== the reference: what is paid (written by wip/gen/gen_rsum.py) ===== -/
theorem rp_X6_manyOf_101_5s {X : Nat × (Nat → Int32)} {M : Nat → Nat → Int32} {L : Nat → Nat → Int64} {G : Nat → Nat → Option Nat} {Q : am_Q} {x1 : Int32} {x2 : Int32} {x3 : Int32} {k : Nat} (hk : k < 360) (h : (((M 106 k) = x2 → (((M 107 k) = x1 → (am_T X 155 5 [some (.ref 101), some (.int x1), some (.int x2), some (.int (x3 + 1)), some (.int (nI (k + 1)))] [] (jm_s M L G) (0, 0) Q)) ∧ (¬ (M 107 k) = x1 → (am_T X 155 5 [some (.ref 101), some (.int x1), some (.int x2), some (.int (x3 + 0)), some (.int (nI (k + 1)))] [] (jm_s M L G) (0, 0) Q)))) ∧ (¬ (M 106 k) = x2 → (am_T X 155 5 [some (.ref 101), some (.int x1), some (.int x2), some (.int (x3 + 0)), some (.int (nI (k + 1)))] [] (jm_s M L G) (0, 0) Q)))) : am_T X 155 5 [some (.ref 101), some (.int x1), some (.int x2), some (.int x3), some (.int (nI k))] [] (jm_s M L G) (0, 0) Q := rg_X6_manyOf_101_5 (by
  rw [nI_clamp (show k < 2147483648 by omega), nI_1 k]
  exact ⟨fun e => absurd e (nI_ge hk (by decide)), fun _ => ⟨(vp_in_nI hk (by decide)), ⟨fun e1 => (h.2 e1), fun e1 => ⟨(vp_in_nI hk (by decide)), ⟨fun e2 => ((h.1 e1).2 e2), fun e2 => ((h.1 e1).1 e2)⟩⟩⟩⟩⟩)
theorem rp_X6_manyOf_101_5e {X : Nat × (Nat → Int32)} {M : Nat → Nat → Int32} {L : Nat → Nat → Int64} {G : Nat → Nat → Option Nat} {Q : am_Q} {x1 : Int32} {x2 : Int32} {x3 : Int32}  (h : Q (some (some (.int x3))) (jm_s M L G)) : am_T X 155 5 [some (.ref 101), some (.int x1), some (.int x2), some (.int x3), some (.int (nI 360))] [] (jm_s M L G) (0, 0) Q := rg_X6_manyOf_101_5 (by
  rw [nI_clamp (show 360 < 2147483648 by omega), nI_1 360]
  exact ⟨fun _ => h, fun e => absurd (nI_le (Nat.le_refl 360) (by decide)) e⟩)
theorem sl_X6_manyOf_101_5 {X : Nat × (Nat → Int32)} {M : Nat → Nat → Int32} {L : Nat → Nat → Int64} {G : Nat → Nat → Option Nat} {Q : am_Q} {x1 : Int32} {x2 : Int32} (hQ : am_T X 155 5 [some (.ref 101), some (.int x1), some (.int x2), some (.int (jm_sm (fun k => (if (M 106 k) = x2 then (if (M 107 k) = x1 then 1 else 0) else 0)) 360)), some (.int (nI 360))] [] (jm_s M L G) (0, 0) Q) : am_T X 155 5 [some (.ref 101), some (.int x1), some (.int x2), some (.int 0), some (.int 0)] [] (jm_s M L G) (0, 0) Q := by
  refine lp_dn (P := fun k => am_T X 155 5 [some (.ref 101), some (.int x1), some (.int x2), some (.int (jm_sm (fun k => (if (M 106 k) = x2 then (if (M 107 k) = x1 then 1 else 0) else 0)) k)), some (.int (nI k))] [] (jm_s M L G) (0, 0) Q) 360 hQ ?_ 0 (Nat.zero_le _)
  intro k hk ih
  have ih2 : am_T X 155 5 [some (.ref 101), some (.int x1), some (.int x2), some (.int (jm_sm (fun k => (if (M 106 k) = x2 then (if (M 107 k) = x1 then 1 else 0) else 0)) k + (if (M 106 k) = x2 then (if (M 107 k) = x1 then 1 else 0) else 0))), some (.int (nI (k + 1)))] [] (jm_s M L G) (0, 0) Q := ih
  exact rp_X6_manyOf_101_5s hk ⟨fun h0 => ⟨fun h1 => (by
      rw [if_pos h0, if_pos h1] at ih2
      exact ih2), fun h1 => (by
      rw [if_pos h0, if_neg h1] at ih2
      exact ih2)⟩, fun h0 => (by
      rw [if_neg h0] at ih2
      exact ih2)⟩
theorem rp_X6_totalOf_101_4s {X : Nat × (Nat → Int32)} {M : Nat → Nat → Int32} {L : Nat → Nat → Int64} {G : Nat → Nat → Option Nat} {Q : am_Q} {x1 : Int32} {k : Nat} (hk : k < 360) (h : (((M 106 k) ≤ 0 → (am_T X 157 4 [some (.ref 101), some (.int (x1 + 0)), some (.int (nI (k + 1)))] [] (jm_s M L G) (0, 0) Q)) ∧ (¬ (M 106 k) ≤ 0 → (am_T X 157 4 [some (.ref 101), some (.int (x1 + 1)), some (.int (nI (k + 1)))] [] (jm_s M L G) (0, 0) Q)))) : am_T X 157 4 [some (.ref 101), some (.int x1), some (.int (nI k))] [] (jm_s M L G) (0, 0) Q := rg_X6_totalOf_101_4 (by
  rw [nI_clamp (show k < 2147483648 by omega), nI_1 k]
  exact ⟨fun e => absurd e (nI_ge hk (by decide)), fun _ => ⟨(vp_in_nI hk (by decide)), ⟨fun e1 => (h.1 e1), fun e1 => (h.2 e1)⟩⟩⟩)
theorem rp_X6_totalOf_101_4e {X : Nat × (Nat → Int32)} {M : Nat → Nat → Int32} {L : Nat → Nat → Int64} {G : Nat → Nat → Option Nat} {Q : am_Q} {x1 : Int32}  (h : Q (some (some (.int x1))) (jm_s M L G)) : am_T X 157 4 [some (.ref 101), some (.int x1), some (.int (nI 360))] [] (jm_s M L G) (0, 0) Q := rg_X6_totalOf_101_4 (by
  rw [nI_clamp (show 360 < 2147483648 by omega), nI_1 360]
  exact ⟨fun _ => h, fun e => absurd (nI_le (Nat.le_refl 360) (by decide)) e⟩)
theorem sl_X6_totalOf_101_4 {X : Nat × (Nat → Int32)} {M : Nat → Nat → Int32} {L : Nat → Nat → Int64} {G : Nat → Nat → Option Nat} {Q : am_Q}  (hQ : am_T X 157 4 [some (.ref 101), some (.int (jm_sm (fun k => (if (M 106 k) ≤ 0 then 0 else 1)) 360)), some (.int (nI 360))] [] (jm_s M L G) (0, 0) Q) : am_T X 157 4 [some (.ref 101), some (.int 0), some (.int 0)] [] (jm_s M L G) (0, 0) Q := by
  refine lp_dn (P := fun k => am_T X 157 4 [some (.ref 101), some (.int (jm_sm (fun k => (if (M 106 k) ≤ 0 then 0 else 1)) k)), some (.int (nI k))] [] (jm_s M L G) (0, 0) Q) 360 hQ ?_ 0 (Nat.zero_le _)
  intro k hk ih
  have ih2 : am_T X 157 4 [some (.ref 101), some (.int (jm_sm (fun k => (if (M 106 k) ≤ 0 then 0 else 1)) k + (if (M 106 k) ≤ 0 then 0 else 1))), some (.int (nI (k + 1)))] [] (jm_s M L G) (0, 0) Q := ih
  exact rp_X6_totalOf_101_4s hk ⟨fun h0 => (by
      rw [if_pos h0] at ih2
      exact ih2), fun h0 => (by
      rw [if_neg h0] at ih2
      exact ih2)⟩
theorem rp_X6_wageOf_101_11s {X : Nat × (Nat → Int32)} {M : Nat → Nat → Int32} {L : Nat → Nat → Int64} {G : Nat → Nat → Option Nat} {Q : am_Q} {x1 : Int32} {x2 : Int32} {x3 : Int32} {k : Nat} (hk : k < 360) (h : (((M 107 k) = x1 → (am_T X 158 11 [some (.ref 101), some (.int x1), some (.int x2), some (.int (x3 + (M 108 k))), some (.int (nI (k + 1)))] [] (jm_s M L G) (0, 0) Q)) ∧ (¬ (M 107 k) = x1 → (am_T X 158 11 [some (.ref 101), some (.int x1), some (.int x2), some (.int (x3 + 0)), some (.int (nI (k + 1)))] [] (jm_s M L G) (0, 0) Q)))) : am_T X 158 11 [some (.ref 101), some (.int x1), some (.int x2), some (.int x3), some (.int (nI k))] [] (jm_s M L G) (0, 0) Q := rg_X6_wageOf_101_11 (by
  rw [nI_clamp (show k < 2147483648 by omega), nI_1 k]
  exact ⟨fun e => absurd e (nI_ge hk (by decide)), fun _ => ⟨(vp_in_nI hk (by decide)), ⟨fun e1 => (h.2 e1), fun e1 => ⟨(vp_in_nI hk (by decide)), (h.1 e1)⟩⟩⟩⟩)
theorem rp_X6_wageOf_101_11e {X : Nat × (Nat → Int32)} {M : Nat → Nat → Int32} {L : Nat → Nat → Int64} {G : Nat → Nat → Option Nat} {Q : am_Q} {x1 : Int32} {x2 : Int32} {x3 : Int32}  (h : ((x2 = 0 → (Q (some (some (.int 0))) (jm_s M L G))) ∧ (¬ x2 = 0 → (Q (some (some (.int (x3 / x2)))) (jm_s M L G))))) : am_T X 158 11 [some (.ref 101), some (.int x1), some (.int x2), some (.int x3), some (.int (nI 360))] [] (jm_s M L G) (0, 0) Q := rg_X6_wageOf_101_11 (by
  rw [nI_clamp (show 360 < 2147483648 by omega), nI_1 360]
  exact ⟨fun _ => ⟨fun e0 => ⟨e0, (h.2 e0)⟩, fun e0 => (h.1 e0)⟩, fun e => absurd (nI_le (Nat.le_refl 360) (by decide)) e⟩)
theorem sl_X6_wageOf_101_11 {X : Nat × (Nat → Int32)} {M : Nat → Nat → Int32} {L : Nat → Nat → Int64} {G : Nat → Nat → Option Nat} {Q : am_Q} {x1 : Int32} {x2 : Int32} (hQ : am_T X 158 11 [some (.ref 101), some (.int x1), some (.int x2), some (.int (jm_sm (fun k => (if (M 107 k) = x1 then (M 108 k) else 0)) 360)), some (.int (nI 360))] [] (jm_s M L G) (0, 0) Q) : am_T X 158 11 [some (.ref 101), some (.int x1), some (.int x2), some (.int 0), some (.int 0)] [] (jm_s M L G) (0, 0) Q := by
  refine lp_dn (P := fun k => am_T X 158 11 [some (.ref 101), some (.int x1), some (.int x2), some (.int (jm_sm (fun k => (if (M 107 k) = x1 then (M 108 k) else 0)) k)), some (.int (nI k))] [] (jm_s M L G) (0, 0) Q) 360 hQ ?_ 0 (Nat.zero_le _)
  intro k hk ih
  have ih2 : am_T X 158 11 [some (.ref 101), some (.int x1), some (.int x2), some (.int (jm_sm (fun k => (if (M 107 k) = x1 then (M 108 k) else 0)) k + (if (M 107 k) = x1 then (M 108 k) else 0))), some (.int (nI (k + 1)))] [] (jm_s M L G) (0, 0) Q := ih
  exact rp_X6_wageOf_101_11s hk ⟨fun h0 => (by
      rw [if_pos h0] at ih2
      exact ih2), fun h0 => (by
      rw [if_neg h0] at ih2
      exact ih2)⟩
theorem rp_X6_wageOfAll_101_9s {X : Nat × (Nat → Int32)} {M : Nat → Nat → Int32} {L : Nat → Nat → Int64} {G : Nat → Nat → Option Nat} {Q : am_Q} {x1 : Int32} {x2 : Int32} {k : Nat} (hk : k < 360) (h : am_T X 159 9 [some (.ref 101), some (.int x1), some (.int (x2 + (M 108 k))), some (.int (nI (k + 1)))] [] (jm_s M L G) (0, 0) Q) : am_T X 159 9 [some (.ref 101), some (.int x1), some (.int x2), some (.int (nI k))] [] (jm_s M L G) (0, 0) Q := rg_X6_wageOfAll_101_9 (by
  rw [nI_clamp (show k < 2147483648 by omega), nI_1 k]
  exact ⟨fun e => absurd e (nI_ge hk (by decide)), fun _ => ⟨(vp_in_nI hk (by decide)), h⟩⟩)
theorem rp_X6_wageOfAll_101_9e {X : Nat × (Nat → Int32)} {M : Nat → Nat → Int32} {L : Nat → Nat → Int64} {G : Nat → Nat → Option Nat} {Q : am_Q} {x1 : Int32} {x2 : Int32}  (h : ((x1 = 0 → (Q (some (some (.int 0))) (jm_s M L G))) ∧ (¬ x1 = 0 → (Q (some (some (.int (x2 / x1)))) (jm_s M L G))))) : am_T X 159 9 [some (.ref 101), some (.int x1), some (.int x2), some (.int (nI 360))] [] (jm_s M L G) (0, 0) Q := rg_X6_wageOfAll_101_9 (by
  rw [nI_clamp (show 360 < 2147483648 by omega), nI_1 360]
  exact ⟨fun _ => ⟨fun e0 => ⟨e0, (h.2 e0)⟩, fun e0 => (h.1 e0)⟩, fun e => absurd (nI_le (Nat.le_refl 360) (by decide)) e⟩)
theorem sl_X6_wageOfAll_101_9 {X : Nat × (Nat → Int32)} {M : Nat → Nat → Int32} {L : Nat → Nat → Int64} {G : Nat → Nat → Option Nat} {Q : am_Q} {x1 : Int32} (hQ : am_T X 159 9 [some (.ref 101), some (.int x1), some (.int (jm_sm (fun k => (M 108 k)) 360)), some (.int (nI 360))] [] (jm_s M L G) (0, 0) Q) : am_T X 159 9 [some (.ref 101), some (.int x1), some (.int 0), some (.int 0)] [] (jm_s M L G) (0, 0) Q := by
  refine lp_dn (P := fun k => am_T X 159 9 [some (.ref 101), some (.int x1), some (.int (jm_sm (fun k => (M 108 k)) k)), some (.int (nI k))] [] (jm_s M L G) (0, 0) Q) 360 hQ ?_ 0 (Nat.zero_le _)
  intro k hk ih
  have ih2 : am_T X 159 9 [some (.ref 101), some (.int x1), some (.int (jm_sm (fun k => (M 108 k)) k + (M 108 k))), some (.int (nI (k + 1)))] [] (jm_s M L G) (0, 0) Q := ih
  exact rp_X6_wageOfAll_101_9s hk (by
      exact ih2)
section RefS
variable {X : Nat × (Nat → Int32)} {M : Nat → Nat → Int32} {L : Nat → Nat → Int64} {G : Nat → Nat → Option Nat} {Q : am_Q} {s : jS}
theorem ct_manyOf (hL : jL M s) {c w : Int32} (hQ : Q (some (some (.int (jm_sm (fun m => if jc_so s m = w then (if jc_ld s m = c then 1 else 0) else 0) 360)))) (jm_s M L G)) : am_T X 155 0 [some (.ref 101), some (.int c), some (.int w), none, none] [] (jm_s M L G) (0, 0) Q := by
  refine rg_X6_manyOf_101_0 (sl_X6_manyOf_101_5 (rp_X6_manyOf_101_5e ?_))
  rw [jm_sm_cong (g := fun m => if jc_so s m = w then (if jc_ld s m = c then 1 else 0) else 0) (fun k hk => by rw [(hL.1 k hk).1, (hL.1 k hk).2.1])]
  exact hQ
theorem ct_ownOf (hL : jL M s) (hw : jw s 44) {c : Nat} (hc : c < 5) (hQ : Q (some (some (.int (jc_ow s c)))) (jm_s M L G)) : am_T X 156 0 [some (.ref 101), some (.int (nI c))] [] (jm_s M L G) (0, 0) Q := by
  refine rg_X6_ownOf_101_0 (cl_i (fun _ h => ct_manyOf hL h) (rg_X6_ownOf_101_6 (cl_i (fun _ h => ct_manyOf hL h) (rg_X6_ownOf_101_12 ?_))))
  rw [jc_cn_eq, show jm_sm (fun m => if jc_so s m = 2 then (if jc_ld s m = nI c then 1 else 0) else 0) 360 = jc_c2 s c from rfl, jc_ow_add s hw (by decide) hc]
  exact hQ
theorem ct_totalOf (hL : jL M s) (hw : jw s 44) (hQ : Q (some (some (.int (jc_J s)))) (jm_s M L G)) : am_T X 157 0 [some (.ref 101), none, none] [] (jm_s M L G) (0, 0) Q := by
  refine rg_X6_totalOf_101_0 (sl_X6_totalOf_101_4 (rp_X6_totalOf_101_4e ?_))
  rw [jm_sm_cong (g := fun m => if jc_ld s m = -1 then 0 else 1) (fun k hk => by
    rw [(hL.1 k hk).1]
    have h0 := jc_so_0 hw (by decide) hk
    by_cases h : jc_ld s k = -1
    · rw [if_pos h, if_pos (h0.mpr h)]
    · rw [if_neg h, if_neg (fun e => h (h0.mp e))]), ← jc_J_eq hw (by decide)]
  exact hQ
theorem ct_wageOf (hL : jL M s) (hw : jw s 44) {c : Nat} (hc : c < 5) (hQ : Q (some (some (.int (jc_ww s c)))) (jm_s M L G)) : am_T X 158 0 [some (.ref 101), some (.int (nI c)), none, none, none] [] (jm_s M L G) (0, 0) Q := by
  refine rg_X6_wageOf_101_0 (cl_i (fun _ h => ct_ownOf hL hw hc h) (rg_X6_wageOf_101_5 (sl_X6_wageOf_101_11 (rp_X6_wageOf_101_11e ?_))))
  rw [jm_sm_cong (g := fun m => if jc_ld s m = nI c then jc_wg s m else 0) (fun k hk => by rw [(hL.1 k hk).2.1, (hL.1 k hk).2.2.1])]
  obtain ⟨j, hj, e⟩ := jc_ow_nat s c
  have h2 : jc_ww s c = if jc_ow s c = 0 then 0 else jc_os s c / jc_ow s c := by
    unfold jc_ww
    rw [e]
    exact jm_bm_nat (by omega)
  rw [h2] at hQ
  refine ⟨fun h => ?_, fun h => ?_⟩
  · rw [if_pos h] at hQ
    exact hQ
  · rw [if_neg h] at hQ
    exact hQ
theorem ct_wageOfAll (hL : jL M s) (hw : jw s 44) (hQ : Q (some (some (.int (jc_W s)))) (jm_s M L G)) : am_T X 159 0 [some (.ref 101), none, none, none] [] (jm_s M L G) (0, 0) Q := by
  refine rg_X6_wageOfAll_101_0 (cl_i (fun _ h => ct_totalOf hL hw h) (rg_X6_wageOfAll_101_4 (sl_X6_wageOfAll_101_9 (rp_X6_wageOfAll_101_9e ?_))))
  rw [jm_sm_cong (g := jc_wg s) (fun k hk => (hL.1 k hk).2.2.1), ← jc_T_eq hw (by decide)]
  obtain ⟨j, hj, e, -⟩ := jc_J_nat (s := s)
  have h2 : jc_W s = if jc_J s = 0 then 0 else jm_sm (jc_os s) 5 / jc_J s := by
    unfold jc_W
    rw [e]
    exact jm_bm_nat (by omega)
  rw [h2] at hQ
  refine ⟨fun h => ?_, fun h => ?_⟩
  · rw [if_pos h] at hQ
    exact hQ
  · rw [if_neg h] at hQ
    exact hQ
theorem ct_bearer (hL : jL M s) (hR : jR (M 102) s) (hw : jw s 44) (hQ : Q (some (some (.int (jc_br s)))) (jm_s M L G)) : am_T X 160 0 [some (.ref 101), none, none, none] [] (jm_s M L G) (0, 0) Q := by
  refine rg_X6_bearer_101_0 ?_
  refine lp_dn (P := fun k => am_T X 160 4 [some (.ref 101), some (.int (jm_br (jc_ow s) (jle s) k)), some (.int (nI k)), none] [] (jm_s M L G) (0, 0) Q) 5 ?_ ?_ 0 (by decide)
  · exact rg_X6_bearer_101_4 ⟨fun _ => hQ, fun h => absurd (nI_le (Nat.le_refl 5) (by decide)) h⟩
  · intro k hk ih
    unfold jm_br at ih
    refine rg_X6_bearer_101_4 ⟨fun h => absurd h (nI_ge hk (by decide)), fun _ => cl_i (fun _ h => ct_ownOf hL hw hk h) (rg_X6_bearer_101_14 ⟨vp_in_nI (show 246 < 277 by decide) (by decide), ?_⟩)⟩
    rw [hR.2.2.2.2.2.1, nI_1]
    by_cases h1 : jc_ow s k < (if 1 < jle s then jle s else 1)
    · rw [if_pos h1] at ih
      exact ⟨fun _ => ih, fun h => ⟨fun _ => ih, fun h2 => absurd (jm_may.mp h1) (fun q => q.elim h h2)⟩⟩
    · rw [if_neg h1] at ih
      have h1' : ¬ (jc_ow s k < jle s ∨ jc_ow s k ≤ 0) := fun q => h1 (jm_may.mpr q)
      refine ⟨fun h => absurd (Or.inl h) h1', fun _ => ⟨fun h => absurd (Or.inr h) h1', fun _ => ⟨fun h => ?_, fun h => ?_⟩⟩⟩
      · rw [if_pos h] at ih
        exact ih
      · rw [if_neg h] at ih
        rcases jm_br_ok (jc_ow s) (jle s) k with e | ⟨b, hb, e⟩
        · exact absurd e h
        · rw [e, nI_clamp (by omega)] at ih
          rw [e]
          refine cl_i (fun _ h => ct_ownOf hL hw (show b < 5 by omega) h) (rg_X6_bearer_101_42 ?_)
          rw [nI_1]
          refine ⟨fun h3 => ?_, fun h3 => ?_⟩
          · rw [if_pos h3] at ih
            exact ih
          · rw [if_neg h3] at ih
            exact ih
theorem ct_lent (hL : jL M s) (hR : jR (M 102) s) (hw : jw s 44) (hQ : Q (some (some (.int (jr_lent s)))) (jm_s M L G)) : am_T X 161 0 [some (.ref 101), none, none] [] (jm_s M L G) (0, 0) Q := by
  refine rg_X6_lent_101_0 ?_
  refine lp_dn (P := fun k => am_T X 161 4 [some (.ref 101), some (.int (jm_sm (fun c => if jle s ≤ jc_ow s c then 0 else jc_ow s c) k)), some (.int (nI k))] [] (jm_s M L G) (0, 0) Q) 5 ?_ ?_ 0 (by decide)
  · exact rg_X6_lent_101_4 ⟨fun _ => hQ, fun h => absurd (nI_le (Nat.le_refl 5) (by decide)) h⟩
  · intro k hk ih
    rw [jm_sm_s] at ih
    refine rg_X6_lent_101_4 ⟨fun h => absurd h (nI_ge hk (by decide)), fun _ => cl_i (fun _ h => ct_ownOf hL hw hk h) (rg_X6_lent_101_15 ⟨vp_in_nI (show 246 < 277 by decide) (by decide), ?_⟩)⟩
    rw [hR.2.2.2.2.2.1, nI_1]
    refine ⟨fun h => ?_, fun h => ?_⟩
    · rw [if_pos h] at ih
      exact ih
    · rw [if_neg h] at ih
      refine cl_i (fun _ h => ct_ownOf hL hw hk h) (rg_X6_lent_101_31 ?_)
      rw [nI_1]
      exact ih
theorem ct_baseOf (hL : jL M s) (hR : jR (M 102) s) (hw : jw s 44) {c : Nat} (hc : c < 5) (hQ : Q (some (some (.int (jc_ba s c)))) (jm_s M L G)) : am_T X 162 0 [some (.ref 101), some (.int (nI c)), none] [] (jm_s M L G) (0, 0) Q := by
  rw [jc_ba_eq hc] at hQ
  refine rg_X6_baseOf_101_0 (cl_i (fun _ h => ct_ownOf hL hw hc h) (rg_X6_baseOf_101_5 ⟨vp_in_nI (show 246 < 277 by decide) (by decide), ?_⟩))
  rw [hR.2.2.2.2.2.1]
  refine ⟨fun h => ?_, fun h => ?_⟩
  · rw [if_pos h] at hQ
    refine cl_i (fun _ h => ct_bearer hL hR hw h) (rg_X6_baseOf_101_25 ⟨fun h2 => ?_, fun h2 => ?_⟩)
    · rw [if_neg h2] at hQ
      exact hQ
    · rw [if_pos h2] at hQ
      exact cl_i (fun _ h => ct_lent hL hR hw h) (rg_X6_baseOf_101_33 hQ)
  · rw [if_neg h] at hQ
    exact hQ
theorem jr_law (c i : Nat) : ((221 : Int32) + (4 : Int32) * nI c) + nI i = nI (221 + (4 * c + i)) := by
  rw [show (4 : Int32) * nI c = nI (4 * c) from pk_mul 4 c, show (221 : Int32) + nI (4 * c) = nI (221 + 4 * c) from nI_add 221 (4 * c), nI_add, Nat.add_assoc]
theorem ct_sumOf (hR : jR (M 102) s) {c : Nat} {n g : Int32} (hc : c < 5) (hQ : Q (some (some (.int (jm_su (jlw s) c n g)))) (jm_s M L G)) : am_T X 163 0 [some (.ref 101), some (.int (nI c)), some (.int n), some (.int g)] [] (jm_s M L G) (0, 0) Q := by
  refine rg_X6_sumOf_101_0 ?_
  rw [show ((221 : Int32) + (4 : Int32) * nI c) + 1 = nI (221 + (4 * c + 1)) from jr_law c 1, show ((221 : Int32) + (4 : Int32) * nI c) + 2 = nI (221 + (4 * c + 2)) from jr_law c 2, nI_clamp (show 221 + (4 * c + 1) < 2147483648 by omega), nI_clamp (show 221 + (4 * c + 2) < 2147483648 by omega), hR.2.2.1 (4 * c + 1) (by omega), hR.2.2.1 (4 * c + 2) (by omega)]
  exact ⟨vp_in_nI (by omega) (by decide), vp_in_nI (by omega) (by decide), by decide, hQ⟩
theorem ct_nationalOf (hL : jL M s) (hR : jR (M 102) s) (hw : jw s 44) {c : Nat} (hc : c < 5) (hQ : Q (some (some (.int (jc_na s c)))) (jm_s M L G)) : am_T X 164 0 [some (.ref 101), some (.int (nI c)), none] [] (jm_s M L G) (0, 0) Q := by
  refine rg_X6_nationalOf_101_0 (cl_i (fun _ h => ct_ownOf hL hw hc h) (rg_X6_nationalOf_101_5 ?_))
  rw [show ((221 : Int32) + (4 : Int32) * nI c) + 0 = nI (221 + (4 * c + 0)) from jr_law c 0, nI_clamp (show 221 + (4 * c + 0) < 2147483648 by omega), hR.2.2.1 (4 * c + 0) (by omega), Nat.add_zero]
  unfold jc_na jm_na at hQ
  refine ⟨vp_in_nI (by omega) (by decide), fun h => ?_, fun h => ⟨fun h2 => ?_, fun h2 => ?_⟩⟩
  · rw [if_pos h] at hQ
    exact hQ
  · rw [if_neg h, if_pos h2] at hQ
    exact hQ
  · rw [if_neg h, if_neg h2] at hQ
    exact cl_i (fun _ h => ct_wageOf hL hw hc h) (rg_X6_nationalOf_101_36 (cl_i (fun _ h => ct_sumOf hR hc h) (rg_X6_nationalOf_101_39 hQ)))
theorem ct_theoreticalOf (hL : jL M s) (hR : jR (M 102) s) (hw : jw s 44) {c : Nat} (hc : c < 5) (hQ : Q (some (some (.int (jc_th s c)))) (jm_s M L G)) : am_T X 165 0 [some (.ref 101), some (.int (nI c))] [] (jm_s M L G) (0, 0) Q := by
  refine rg_X6_theoreticalOf_101_0 (cl_i (fun _ h => ct_totalOf hL hw h) (rg_X6_theoreticalOf_101_4 ?_))
  rw [show ((221 : Int32) + (4 : Int32) * nI c) + 0 = nI (221 + (4 * c + 0)) from jr_law c 0, nI_clamp (show 221 + (4 * c + 0) < 2147483648 by omega), hR.2.2.1 (4 * c + 0) (by omega), Nat.add_zero]
  unfold jc_th jm_th at hQ
  refine ⟨vp_in_nI (by omega) (by decide), fun h => ?_, fun h => ?_⟩
  · rw [if_pos h] at hQ
    exact hQ
  · rw [if_neg h] at hQ
    obtain ⟨j, hj, e, -⟩ := jc_ba_nat (s := s) hc
    refine cl_i (fun _ h => ct_baseOf hL hR hw hc h) (rg_X6_theoreticalOf_101_26 ⟨fun h2 => ?_, fun h2 => ?_⟩)
    · rw [e] at h2
      rw [if_pos (by rw [e]; exact (nI_eq0 (by omega)).mpr ((nI_le0 (by omega)).mp h2))] at hQ
      exact hQ
    · rw [e] at h2
      rw [if_neg (by rw [e]; exact fun q => h2 ((nI_le0 (by omega)).mpr ((nI_eq0 (by omega)).mp q)))] at hQ
      exact cl_i (fun _ h => ct_totalOf hL hw h) (rg_X6_theoreticalOf_101_35 (cl_i (fun _ h => ct_wageOfAll hL hw h) (rg_X6_theoreticalOf_101_39 (cl_i (fun _ h => ct_sumOf hR hc h) (rg_X6_theoreticalOf_101_42 hQ)))))
theorem ct_sharedOf (hL : jL M s) (hR : jR (M 102) s) (hw : jw s 44) {c : Nat} (hc : c < 5) (hQ : Q (some (some (.int (jc_sh s c)))) (jm_s M L G)) : am_T X 166 0 [some (.ref 101), some (.int (nI c))] [] (jm_s M L G) (0, 0) Q := by
  obtain ⟨j, hj, e, hJ⟩ := jc_ba_nat (s := s) hc
  obtain ⟨J, hJ1, hJ2, -⟩ := jc_J_nat (s := s)
  have e2 : jc_sh s c = if jc_J s = 0 then 0 else jc_th s c * jc_ba s c / jc_J s := by
    unfold jc_sh
    rw [hJ2]
    exact jm_bm_nat (by omega)
  rw [e2] at hQ
  refine rg_X6_sharedOf_101_0 (cl_i (fun _ h => ct_baseOf hL hR hw hc h) (rg_X6_sharedOf_101_5 ⟨fun h => ?_, fun h => ?_⟩))
  · have hjz : jc_J s ≠ 0 := by
      apply hJ
      intro q
      apply h
      rw [e, q]
      rfl
    rw [if_neg hjz] at hQ
    exact cl_i (fun _ h => ct_theoreticalOf hL hR hw hc h) (rg_X6_sharedOf_101_17 (cl_i (fun _ h => ct_baseOf hL hR hw hc h) (rg_X6_sharedOf_101_22 (cl_i (fun _ h => ct_totalOf hL hw h) (rg_X6_sharedOf_101_27 ⟨hjz, hQ⟩)))))
  · have hz : (if jc_J s = 0 then 0 else jc_th s c * jc_ba s c / jc_J s) = 0 := by
      rw [h, Int32.mul_zero, Int32.zero_div, ite_self]
    rw [hz] at hQ
    exact hQ
theorem ct_paidOf (hL : jL M s) (hR : jR (M 102) s) (hw : jw s 44) {c : Nat} (hc : c < 5) (hQ : Q (some (some (.int (jc_py s c)))) (jm_s M L G)) : am_T X 167 0 [some (.ref 101), some (.int (nI c))] [] (jm_s M L G) (0, 0) Q :=
  rg_X6_paidOf_101_0 (cl_i (fun _ h => ct_nationalOf hL hR hw hc h) (rg_X6_paidOf_101_5 (cl_i (fun _ h => ct_sharedOf hL hR hw hc h) (rg_X6_paidOf_101_10 hQ))))
theorem ct_allOf (hR : jR (M 102) s) (hw : jw s 44) (hQ : ∀ M', (∀ q, q ≠ 101 → q < 106 ∨ 112 < q → M' q = M q) → (∀ i, i ≠ 15 → M' 101 i = M 101 i) → jL M' s → Q (some (some (.int (jc_all s)))) (jm_s M' L G)) : am_T X 168 0 [some (.ref 101), none, none] [] (jm_s M L G) (0, 0) Q := by
  refine rg_X6_allOf_101_0 (cl_v (ct_layMonths hR hw (fun M' f1 f2 hL => ⟨rfl, rg_X6_allOf_101_4 ?_⟩)))
  have hR' : jR (M' 102) s := by
    rw [f1 102 (by decide) (by decide)]
    exact hR
  refine lp_dn (P := fun k => am_T X 168 8 [some (.ref 101), some (.int (jm_sm (jc_py s) k)), some (.int (nI k))] [] (jm_s M' L G) (0, 0) Q) 5 ?_ ?_ 0 (by decide)
  · exact rg_X6_allOf_101_8 ⟨fun _ => hQ M' f1 f2 hL, fun h => absurd (nI_le (Nat.le_refl 5) (by decide)) h⟩
  · intro k hk ih
    refine rg_X6_allOf_101_8 ⟨fun h => absurd h (nI_ge hk (by decide)), fun _ => cl_i (fun _ h => ct_paidOf hL hR' hw hk h) (rg_X6_allOf_101_19 ?_)⟩
    rw [nI_1]
    exact ih
end RefS
