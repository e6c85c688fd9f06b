/-! ===== pairs: what is paid (written by wip/gen/gen_pp1.py) ===== -/
/-- what the reference's reckoning leaves alone -/
def jfr (M M' : Nat → Nat → Int32) : Prop := (∀ q, q ≠ 101 → q < 106 ∨ 112 < q → M' q = M q) ∧ ∀ i, i ≠ 5 → i ≠ 15 → M' 101 i = M 101 i
theorem jfr_0 (M : Nat → Nat → Int32) (v : Int32) : jfr M (wi_m M 101 5 v) := ⟨fun q h _ => wi_m_p _ _ h, fun i h _ => by rw [wi_m_eq, if_pos rfl, if_neg h]⟩
theorem pp_ro {X : Nat × (Nat → Int32)} {M : Nat → Nat → Int32} {L : Nat → Nat → Int64} {G : Nat → Nat → Option Nat} {a : jA} {v : Int32} {y z : Nat} {lo lp : am_L} (hA : jAw a) (hC : jC M L G a) (hR : jRR M L a) (l : List Int64) (hl : l.length ≤ 120) (c : ∀ Q : am_Q, Q (some (some (.int v))) (jm_s (wi_m M 3 1 (nI l.length)) (wls L 4 0 l) G) → am_T X y 0 lo [] (jm_s M L G) (0, 0) Q) (r : ∀ M1 L1, jRR M1 L1 a → ∀ Q : am_Q, (∀ M2, jfr M1 M2 → Q (some (some (.int v))) (jm_s (wi_m M2 101 4 (nI l.length)) (wls L1 104 0 l) G)) → am_T X z 0 lp [] (jm_s M1 L1 G) (0, 0) Q) : jpp X (jm_s M L G) y lo z lp := by
  have hR1 : jRR (wi_m M 3 1 (nI l.length)) (wls L 4 0 l) a := jRR_f hR (fun q h1 h2 => wi_m_p _ _ (by omega)) (wls_q (by decide) l L 0)
  refine ⟨v, c _ ⟨v, rfl, rfl, r _ _ hR1 _ (fun M2 f => ⟨v, rfl, rfl, ?_⟩)⟩⟩
  refine jI_mk (jAw_w hA hl) (jC_row hC l) (fun q hq => ?_) (wls_q (by decide) l _ 0) (jRR_row hR1 l (fun q h1 h2 => ?_) (fun i h1 h2 h3 => ?_) (wi_m_i _ _ _ _))
  · rw [wi_m_p _ _ (by omega), f.1 q (by omega) (by omega)]
  · rw [wi_m_p _ _ h1, f.1 q h1 h2]
  · rw [wi_m_eq, if_pos rfl, if_neg h1, f.2 i h2 h3]
theorem pp_rd {X : Nat × (Nat → Int32)} {M : Nat → Nat → Int32} {L : Nat → Nat → Int64} {G : Nat → Nat → Option Nat} {a : jA} {v : Int32} {y z : Nat} {lo lp : am_L} (hA : jAw a) (hC : jC M L G a) (hR : jRR M L a) (c : ∀ Q : am_Q, Q (some (some (.int v))) (jm_s M L G) → am_T X y 0 lo [] (jm_s M L G) (0, 0) Q) (r : ∀ Q : am_Q, (∀ M2, jfr M M2 → Q (some (some (.int v))) (jm_s M2 L G)) → am_T X z 0 lp [] (jm_s M L G) (0, 0) Q) : jpp X (jm_s M L G) y lo z lp :=
  pp_id hA hC hR c (fun Q hQ => r Q (fun M2 f => hQ M2 f.1 f.2))
theorem jw_44 {s : jS} (h : jw s 20) : jw s 44 := ⟨Nat.le_trans h.1 (by decide), h.2⟩
section PP1
variable {X : Nat × (Nat → Int32)} {M : Nat → Nat → Int32} {L : Nat → Nat → Int64} {G : Nat → Nat → Option Nat} {Q : am_Q} {a : jA}
theorem ct_lay0 {s : jS} (hR : jR (M 102) s) (hw : jw s 44) (hQ : ∀ M2, jfr M M2 → jL M2 s → jR (M2 102) s → Q (some none) (jm_s M2 L G)) : am_T X 150 0 [some (.ref 101), none, none] [] (jm_s (wi_m M 101 5 0) L G) (0, 0) Q := by
  refine ct_layMonths (s := s) hR hw (fun M2 f1 f2 hL => hQ M2 ⟨fun q h1 h2 => ?_, fun i h1 h2 => ?_⟩ hL ?_)
  · rw [f1 q h1 h2, wi_m_p _ _ h1]
  · rw [f2 i h2, wi_m_eq, if_pos rfl, if_neg h1]
  · rw [f1 102 (by decide) (by decide)]
    exact hR
theorem ct_all0 {s : jS} (hR : jR (M 102) s) (hw : jw s 44) (hQ : ∀ M2, jfr M M2 → jL M2 s → jR (M2 102) s → Q (some (some (.int (jc_all s)))) (jm_s M2 L G)) : am_T X 168 0 [some (.ref 101), none, none] [] (jm_s (wi_m M 101 5 0) L G) (0, 0) Q := by
  refine ct_allOf (s := s) hR hw (fun M2 f1 f2 hL => hQ M2 ⟨fun q h1 h2 => ?_, fun i h1 h2 => ?_⟩ hL ?_)
  · rw [f1 q h1 h2, wi_m_p _ _ h1]
  · rw [f2 i h2, wi_m_eq, if_pos rfl, if_neg h1]
  · rw [f1 102 (by decide) (by decide)]
    exact hR
theorem rc_n {x : Int32} (h : x < 0 ∨ nI 5 ≤ x) : jb (decide (0 ≤ x ∧ x ≤ 4)) = 0 := jb_n (decide_eq_false (fun e => h.elim (fun h => Int32.not_lt.mpr e.1 h) (fun h => absurd (Int32.le_trans h e.2) (by decide))))
theorem rc_y {c : Nat} (h : c < 5) : jb (decide (0 ≤ nI c ∧ nI c ≤ 4)) = 1 := jb_y (decide_eq_true ⟨nI_pos' (by omega), nI_le (show c ≤ 4 by omega) (by decide)⟩)
theorem rm_n {x : Int32} (h : x < 0 ∨ nI 360 ≤ x) : jb (decide (0 ≤ x ∧ x ≤ 359)) = 0 := jb_n (decide_eq_false (fun e => h.elim (fun h => Int32.not_lt.mpr e.1 h) (fun h => absurd (Int32.le_trans h e.2) (by decide))))
theorem rm_y {c : Nat} (h : c < 360) : jb (decide (0 ≤ nI c ∧ nI c ≤ 359)) = 1 := jb_y (decide_eq_true ⟨nI_pos' (by omega), nI_le (show c ≤ 359 by omega) (by decide)⟩)
end PP1
theorem rp_X5_own_0_16 {X : Nat × (Nat → Int32)} {M : Nat → Nat → Int32} {L : Nat → Nat → Int64} {G : Nat → Nat → Option Nat} {Q : am_Q} {c : Nat} (hc : c < 5) (h : ∃ K : am_S → Prop, am_T X 24 0 [some (.ref 3), some (.long ((M 25 c).toInt64)), none] [] (jm_s M L G) (0, 0) (am_qv K) ∧ ∀ σ', K σ' → am_T X 65 33 [some (.ref 0), some (.int (nI c))] [] σ' (0, 0) Q) : am_T X 65 16 [some (.ref 0), some (.int (nI c))] [] (jm_s M L G) (0, 0) Q := rg_X5_own_0_16 (by
  rw [nI_clamp (show c < 2147483648 by omega)]
  exact ⟨(vp_in_nI hc (by decide)), h⟩)
theorem rp_X5_own_0_33 {X : Nat × (Nat → Int32)} {M : Nat → Nat → Int32} {L : Nat → Nat → Int64} {G : Nat → Nat → Option Nat} {Q : am_Q} {c : Nat} (hc : c < 5) (h : ∃ K : am_S → Prop, am_T X 24 0 [some (.ref 3), some (.long (((M 24 c) - (M 25 c)).toInt64)), none] [] (jm_s M L G) (0, 0) (am_qv K) ∧ ∀ σ', K σ' → am_T X 65 60 [some (.ref 0), some (.int (nI c))] [] σ' (0, 0) Q) : am_T X 65 33 [some (.ref 0), some (.int (nI c))] [] (jm_s M L G) (0, 0) Q := rg_X5_own_0_33 (by
  rw [nI_clamp (show c < 2147483648 by omega)]
  exact ⟨(vp_in_nI hc (by decide)), ⟨(vp_in_nI hc (by decide)), h⟩⟩)
theorem rp_X5_own_0_60 {X : Nat × (Nat → Int32)} {M : Nat → Nat → Int32} {L : Nat → Nat → Int64} {G : Nat → Nat → Option Nat} {Q : am_Q} {c : Nat} (hc : c < 5) (h : ∃ K : am_S → Prop, am_T X 24 0 [some (.ref 3), some (.long ((M 26 c).toInt64)), none] [] (jm_s M L G) (0, 0) (am_qv K) ∧ ∀ σ', K σ' → am_T X 65 77 [some (.ref 0), some (.int (nI c))] [] σ' (0, 0) Q) : am_T X 65 60 [some (.ref 0), some (.int (nI c))] [] (jm_s M L G) (0, 0) Q := rg_X5_own_0_60 (by
  rw [nI_clamp (show c < 2147483648 by omega)]
  exact ⟨(vp_in_nI hc (by decide)), h⟩)
theorem rp_X5_own_0_77 {X : Nat × (Nat → Int32)} {M : Nat → Nat → Int32} {L : Nat → Nat → Int64} {G : Nat → Nat → Option Nat} {Q : am_Q} {c : Nat} (hc : c < 5) (h : ∃ K : am_S → Prop, am_T X 24 0 [some (.ref 3), some (.long ((M 27 c).toInt64)), none] [] (jm_s M L G) (0, 0) (am_qv K) ∧ ∀ σ', K σ' → am_T X 65 94 [some (.ref 0), some (.int (nI c))] [] σ' (0, 0) Q) : am_T X 65 77 [some (.ref 0), some (.int (nI c))] [] (jm_s M L G) (0, 0) Q := rg_X5_own_0_77 (by
  rw [nI_clamp (show c < 2147483648 by omega)]
  exact ⟨(vp_in_nI hc (by decide)), h⟩)
theorem rp_X5_own_0_94 {X : Nat × (Nat → Int32)} {M : Nat → Nat → Int32} {L : Nat → Nat → Int64} {G : Nat → Nat → Option Nat} {Q : am_Q} {c : Nat} (hc : c < 5) (h : Q (some (some (.int (M 24 c)))) (jm_s M L G)) : am_T X 65 94 [some (.ref 0), some (.int (nI c))] [] (jm_s M L G) (0, 0) Q := rg_X5_own_0_94 (by
  rw [nI_clamp (show c < 2147483648 by omega)]
  exact ⟨(vp_in_nI hc (by decide)), h⟩)
theorem rp_X5_national_0_4 {X : Nat × (Nat → Int32)} {M : Nat → Nat → Int32} {L : Nat → Nat → Int64} {G : Nat → Nat → Option Nat} {Q : am_Q} {s0 : Int32} {c : Nat} (hc : c < 5) (h : ((s0 = 0 → (Q (some (some (.int (-1)))) (jm_s M L G))) ∧ (¬ s0 = 0 → (Q (some (some (.int (M 28 c)))) (jm_s M L G))))) : am_T X 72 4 [some (.ref 0), some (.int (nI c))] [(.int s0)] (jm_s M L G) (0, 0) Q := rg_X5_national_0_4 (by
  rw [nI_clamp (show c < 2147483648 by omega)]
  exact ⟨fun e0 => (h.1 e0), fun e0 => ⟨(vp_in_nI hc (by decide)), (h.2 e0)⟩⟩)
theorem rp_X5_theoretical_0_16 {X : Nat × (Nat → Int32)} {M : Nat → Nat → Int32} {L : Nat → Nat → Int64} {G : Nat → Nat → Option Nat} {Q : am_Q} {c : Nat} (hc : c < 5) (h : ∃ K : am_S → Prop, am_T X 24 0 [some (.ref 3), some (.long ((M 30 c).toInt64)), none] [] (jm_s M L G) (0, 0) (am_qv K) ∧ ∀ σ', K σ' → am_T X 73 33 [some (.ref 0), some (.int (nI c))] [] σ' (0, 0) Q) : am_T X 73 16 [some (.ref 0), some (.int (nI c))] [] (jm_s M L G) (0, 0) Q := rg_X5_theoretical_0_16 (by
  rw [nI_clamp (show c < 2147483648 by omega)]
  exact ⟨(vp_in_nI hc (by decide)), h⟩)
theorem rp_X5_theoretical_0_33 {X : Nat × (Nat → Int32)} {M : Nat → Nat → Int32} {L : Nat → Nat → Int64} {G : Nat → Nat → Option Nat} {Q : am_Q} {c : Nat} (hc : c < 5) (h : Q (some (some (.int (M 29 c)))) (jm_s M L G)) : am_T X 73 33 [some (.ref 0), some (.int (nI c))] [] (jm_s M L G) (0, 0) Q := rg_X5_theoretical_0_33 (by
  rw [nI_clamp (show c < 2147483648 by omega)]
  exact ⟨(vp_in_nI hc (by decide)), h⟩)
theorem rp_X5_paid_0_25 {X : Nat × (Nat → Int32)} {M : Nat → Nat → Int32} {L : Nat → Nat → Int64} {G : Nat → Nat → Option Nat} {Q : am_Q} {x2 : Int32} {c : Nat} (hc : c < 5) (h : ((x2 = 0 → (∃ K : am_S → Prop, am_T X 24 0 [some (.ref 3), some (.long (Int32.toInt64 0)), none] [] (jm_s M L G) (0, 0) (am_qv K) ∧ ∀ σ', K σ' → am_T X 74 60 [none, none, some (.int x2)] [] σ' (0, 0) Q)) ∧ (¬ x2 = 0 → ((x2 = (M 28 c) → (∃ K : am_S → Prop, am_T X 24 0 [some (.ref 3), some (.long (Int32.toInt64 1)), none] [] (jm_s M L G) (0, 0) (am_qv K) ∧ ∀ σ', K σ' → am_T X 74 60 [none, none, some (.int x2)] [] σ' (0, 0) Q)) ∧ (¬ x2 = (M 28 c) → (∃ K : am_S → Prop, am_T X 24 0 [some (.ref 3), some (.long (Int32.toInt64 2)), none] [] (jm_s M L G) (0, 0) (am_qv K) ∧ ∀ σ', K σ' → am_T X 74 60 [none, none, some (.int x2)] [] σ' (0, 0) Q)))))) : am_T X 74 25 [some (.ref 0), some (.int (nI c)), some (.int x2)] [] (jm_s M L G) (0, 0) Q := rg_X5_paid_0_25 (by
  rw [nI_clamp (show c < 2147483648 by omega)]
  exact ⟨fun e0 => ⟨(vp_in_nI hc (by decide)), ⟨fun e2 => ((h.2 e0).2 e2), fun e2 => ((h.2 e0).1 e2)⟩⟩, fun e0 => (h.1 e0)⟩)
section PP1b
variable {X : Nat × (Nat → Int32)} {M : Nat → Nat → Int32} {L : Nat → Nat → Int64} {G : Nat → Nat → Option Nat} {Q : am_Q} {a : jA}
theorem pp_own (hA : jAw a) (hC : jC M L G a) (hR : jRR M L a) (x : Int32) : jpp X (jm_s M L G) 65 [some (.ref 0), some (.int x)] 169 [some (.ref 101), some (.int x)] := by
  have hw := jw_44 hA.1
  obtain ⟨k1, ⟨k2, k3, k4, k5, k6⟩, k7⟩ := hC.1.1.2
  rcases jx_case 5 (by decide) x with h | ⟨c, hc, rfl⟩
  · refine pp_rd hA hC hR (v := -1) (fun Q hQ => rg_X5_own_0_0 (cl_i (fun _ h' => ct_isCountry_n h h') (rn_X5_own_0_4 ⟨fun _ => hQ, fun e => absurd rfl e⟩))) (fun Q hQ => rg_X6_own_101_0 (cl_i (fun _ h' => ct_risCountry h') ?_))
    rw [rc_n h]
    exact rn_X6_own_101_9 ⟨fun _ => hQ _ (jfr_0 M 0), fun e => absurd rfl e⟩
  · obtain ⟨c1, c2, c3, c4, c5, c6, c7⟩ := k7 c hc
    refine pp_ro hA hC hR (v := jc_ow (ja_s a) c) [(jc_cn (ja_s a) c).toInt64, (jc_ow (ja_s a) c - jc_cn (ja_s a) c).toInt64, (jc_ww (ja_s a) c).toInt64, (jc_ba (ja_s a) c).toInt64] (Nat.le_of_ble_eq_true rfl) (fun Q hQ => ?_) (fun M1 L1 hR1 Q hQ => ?_)
    · rw [← c1, ← c2, ← c3, ← c4] at hQ
      refine rg_X5_own_0_0 (cl_i (fun _ h => ct_isCountry_y hc h) (rn_X5_own_0_4 ⟨fun e => absurd e (by decide), fun _ => cl_v (ct_clear ⟨rfl, ?_⟩)⟩))
      exact rp_X5_own_0_16 hc (cl_v (ct_tell (l := []) (Nat.le_of_ble_eq_true rfl) ⟨rfl, rp_X5_own_0_33 hc (cl_v (ct_tell (l := [_]) (Nat.le_of_ble_eq_true rfl) ⟨rfl, rp_X5_own_0_60 hc (cl_v (ct_tell (l := [_, _]) (Nat.le_of_ble_eq_true rfl) ⟨rfl, rp_X5_own_0_77 hc (cl_v (ct_tell (l := [_, _, _]) (Nat.le_of_ble_eq_true rfl) ⟨rfl, rp_X5_own_0_94 hc hQ⟩))⟩))⟩))⟩))
    · refine rg_X6_own_101_0 (cl_i (fun _ h' => ct_risCountry h') ?_)
      rw [rc_y hc]
      refine rn_X6_own_101_9 ⟨fun e => absurd e (by decide), fun _ => cl_v (ct_lay0 hR1.1.1 hw (fun M2 f hL hR2 => ⟨rfl, ?_⟩))⟩
      have hQ := hQ M2 f
      rw [← jc_c2_eq _ hw (by decide) hc, ← jc_cn_eq] at hQ
      exact rg_X6_own_101_18 (cl_i (fun _ h => ct_manyOf (jL_w hL (by decide)) h) (rg_X6_own_101_30 (cl_v (ct_rtell (l := []) (Nat.le_of_ble_eq_true rfl) ⟨rfl, rg_X6_own_101_34 (cl_i (fun _ h => ct_manyOf (jL_w hL (by decide)) h) (rg_X6_own_101_41 (cl_v (ct_rtell (l := [_]) (Nat.le_of_ble_eq_true rfl) ⟨rfl, rg_X6_own_101_45 (cl_i (fun _ h => ct_wageOf (jL_w hL (by decide)) hw hc h) (rg_X6_own_101_51 (cl_v (ct_rtell (l := [_, _]) (Nat.le_of_ble_eq_true rfl) ⟨rfl, rg_X6_own_101_55 (cl_i (fun _ h => ct_baseOf (jL_w hL (by decide)) hR2 hw hc h) (rg_X6_own_101_61 (cl_v (ct_rtell (l := [_, _, _]) (Nat.le_of_ble_eq_true rfl) ⟨rfl, rg_X6_own_101_65 (cl_i (fun _ h => ct_ownOf (jL_w hL (by decide)) hw hc h) (rg_X6_own_101_70 hQ))⟩))))⟩))))⟩))))⟩))))
theorem pp_national (hA : jAw a) (hC : jC M L G a) (hR : jRR M L a) (x : Int32) : jpp X (jm_s M L G) 72 [some (.ref 0), some (.int x)] 179 [some (.ref 101), some (.int x)] := by
  have hw := jw_44 hA.1
  obtain ⟨k1, ⟨k2, k3, k4, k5, k6⟩, k7⟩ := hC.1.1.2
  rcases jx_case 5 (by decide) x with h | ⟨c, hc, rfl⟩
  · refine pp_rd hA hC hR (v := -1) (fun Q hQ => rg_X5_national_0_0 (cl_i (fun _ h' => ct_isCountry_n h h') (rn_X5_national_0_4 ⟨fun _ => hQ, fun e => absurd rfl e⟩))) (fun Q hQ => rg_X6_national_101_0 (cl_i (fun _ h' => ct_risCountry h') ?_))
    rw [rc_n h]
    exact rn_X6_national_101_9 ⟨fun _ => hQ _ (jfr_0 M 0), fun e => absurd rfl e⟩
  · obtain ⟨c1, c2, c3, c4, c5, c6, c7⟩ := k7 c hc
    refine pp_rd hA hC hR (v := jc_na (ja_s a) c) (fun Q hQ => ?_) (fun Q hQ => ?_)
    · rw [← c5] at hQ
      exact rg_X5_national_0_0 (cl_i (fun _ h => ct_isCountry_y hc h) (rp_X5_national_0_4 hc ⟨fun e => absurd e (by decide), fun _ => hQ⟩))
    · refine rg_X6_national_101_0 (cl_i (fun _ h' => ct_risCountry h') ?_)
      rw [rc_y hc]
      exact rn_X6_national_101_9 ⟨fun e => absurd e (by decide), fun _ => cl_v (ct_lay0 hR.1.1 hw (fun M2 f hL hR2 => ⟨rfl, rg_X6_national_101_18 (cl_i (fun _ h => ct_nationalOf hL hR2 hw hc h) (rg_X6_national_101_23 (hQ M2 f)))⟩))⟩
theorem pp_theoretical (hA : jAw a) (hC : jC M L G a) (hR : jRR M L a) (x : Int32) : jpp X (jm_s M L G) 73 [some (.ref 0), some (.int x)] 180 [some (.ref 101), some (.int x)] := by
  have hw := jw_44 hA.1
  obtain ⟨k1, ⟨k2, k3, k4, k5, k6⟩, k7⟩ := hC.1.1.2
  rcases jx_case 5 (by decide) x with h | ⟨c, hc, rfl⟩
  · refine pp_rd hA hC hR (v := -1) (fun Q hQ => rg_X5_theoretical_0_0 (cl_i (fun _ h' => ct_isCountry_n h h') (rn_X5_theoretical_0_4 ⟨fun _ => hQ, fun e => absurd rfl e⟩))) (fun Q hQ => rg_X6_theoretical_101_0 (cl_i (fun _ h' => ct_risCountry h') ?_))
    rw [rc_n h]
    exact rn_X6_theoretical_101_9 ⟨fun _ => hQ _ (jfr_0 M 0), fun e => absurd rfl e⟩
  · obtain ⟨c1, c2, c3, c4, c5, c6, c7⟩ := k7 c hc
    refine pp_ro hA hC hR (v := jc_th (ja_s a) c) [(jc_sh (ja_s a) c).toInt64] (Nat.le_of_ble_eq_true rfl) (fun Q hQ => ?_) (fun M1 L1 hR1 Q hQ => ?_)
    · rw [← c6, ← c7] at hQ
      refine rg_X5_theoretical_0_0 (cl_i (fun _ h => ct_isCountry_y hc h) (rn_X5_theoretical_0_4 ⟨fun e => absurd e (by decide), fun _ => cl_v (ct_clear ⟨rfl, ?_⟩)⟩))
      exact rp_X5_theoretical_0_16 hc (cl_v (ct_tell (l := []) (Nat.le_of_ble_eq_true rfl) ⟨rfl, rp_X5_theoretical_0_33 hc hQ⟩))
    · refine rg_X6_theoretical_101_0 (cl_i (fun _ h' => ct_risCountry h') ?_)
      rw [rc_y hc]
      refine rn_X6_theoretical_101_9 ⟨fun e => absurd e (by decide), fun _ => cl_v (ct_lay0 hR1.1.1 hw (fun M2 f hL hR2 => ⟨rfl, ?_⟩))⟩
      have hQ := hQ M2 f
      exact rg_X6_theoretical_101_18 (cl_i (fun _ h => ct_sharedOf (jL_w hL (by decide)) hR2 hw hc h) (rg_X6_theoretical_101_29 (cl_v (ct_rtell (l := []) (Nat.le_of_ble_eq_true rfl) ⟨rfl, rg_X6_theoretical_101_33 (cl_i (fun _ h => ct_theoreticalOf (jL_w hL (by decide)) hR2 hw hc h) (rg_X6_theoretical_101_38 hQ))⟩))))
theorem pp_paid (hA : jAw a) (hC : jC M L G a) (hR : jRR M L a) (x : Int32) : jpp X (jm_s M L G) 74 [some (.ref 0), some (.int x), none] 181 [some (.ref 101), some (.int x), none] := by
  have hw := jw_44 hA.1
  obtain ⟨k1, ⟨k2, k3, k4, k5, k6⟩, k7⟩ := hC.1.1.2
  rcases jx_case 5 (by decide) x with h | ⟨c, hc, rfl⟩
  · refine pp_rd hA hC hR (v := -1) (fun Q hQ => rg_X5_paid_0_0 (cl_i (fun _ h' => ct_isCountry_n h h') (rn_X5_paid_0_4 ⟨fun _ => hQ, fun e => absurd rfl e⟩))) (fun Q hQ => rg_X6_paid_101_0 (cl_i (fun _ h' => ct_risCountry h') ?_))
    rw [rc_n h]
    exact rn_X6_paid_101_9 ⟨fun _ => hQ _ (jfr_0 M 0), fun e => absurd rfl e⟩
  · obtain ⟨c1, c2, c3, c4, c5, c6, c7⟩ := k7 c hc
    have ep : (if M 28 c < M 30 c then M 30 c else M 28 c) = jc_py (ja_s a) c := by
      rw [show M 28 c = _ from c5, show M 30 c = _ from c7]
      rfl
    refine pp_ro hA hC hR (v := jc_py (ja_s a) c) [if jc_py (ja_s a) c = 0 then Int32.toInt64 0 else if jc_py (ja_s a) c = jc_na (ja_s a) c then Int32.toInt64 1 else Int32.toInt64 2] (Nat.le_of_ble_eq_true rfl) (fun Q hQ => ?_) (fun M1 L1 hR1 Q hQ => ?_)
    · refine rg_X5_paid_0_0 (cl_i (fun _ h => ct_isCountry_y hc h) (rn_X5_paid_0_4 ⟨fun e => absurd e (by decide), fun _ => cl_i (fun _ h => ct_paysOf_15 hc h) (rg_X5_paid_0_17 (cl_v (ct_clear ⟨rfl, ?_⟩)))⟩))
      rw [ep]
      refine rp_X5_paid_0_25 hc ⟨fun h => ?_, fun h => ⟨fun h2 => ?_, fun h2 => ?_⟩⟩
      · rw [if_pos h] at hQ
        exact cl_v (ct_tell (l := []) (Nat.le_of_ble_eq_true rfl) ⟨rfl, rg_X5_paid_0_60 hQ⟩)
      · rw [if_neg h, if_pos (show jc_py (ja_s a) c = jc_na (ja_s a) c from (show jc_py (ja_s a) c = M 28 c from h2).trans c5)] at hQ
        exact cl_v (ct_tell (l := []) (Nat.le_of_ble_eq_true rfl) ⟨rfl, rg_X5_paid_0_60 hQ⟩)
      · rw [if_neg h, if_neg (show ¬ jc_py (ja_s a) c = jc_na (ja_s a) c from fun e => h2 (e.trans c5.symm))] at hQ
        exact cl_v (ct_tell (l := []) (Nat.le_of_ble_eq_true rfl) ⟨rfl, rg_X5_paid_0_60 hQ⟩)
    · refine rg_X6_paid_101_0 (cl_i (fun _ h' => ct_risCountry h') ?_)
      rw [rc_y hc]
      refine rn_X6_paid_101_9 ⟨fun e => absurd e (by decide), fun _ => cl_v (ct_lay0 hR1.1.1 hw (fun M2 f hL hR2 => ⟨rfl, ?_⟩))⟩
      have hQ := hQ M2 f
      refine rg_X6_paid_101_18 (cl_i (fun _ h => ct_paidOf hL hR2 hw hc h) (rn_X6_paid_101_23 ⟨fun h => ?_, fun h => ?_⟩))
      · rw [if_pos h] at hQ
        exact cl_v (ct_rtell (l := []) (Nat.le_of_ble_eq_true rfl) ⟨rfl, rg_X6_paid_101_57 hQ⟩)
      · rw [if_neg h] at hQ
        refine cl_i (fun _ h => ct_nationalOf (jL_w hL (by decide)) hR2 hw hc h) (rn_X6_paid_101_44 ⟨fun h2 => ?_, fun h2 => ?_⟩)
        · rw [if_pos h2] at hQ
          exact cl_v (ct_rtell (l := []) (Nat.le_of_ble_eq_true rfl) ⟨rfl, rg_X6_paid_101_57 hQ⟩)
        · rw [if_neg h2] at hQ
          exact cl_v (ct_rtell (l := []) (Nat.le_of_ble_eq_true rfl) ⟨rfl, rg_X6_paid_101_57 hQ⟩)
theorem pp_total (hA : jAw a) (hC : jC M L G a) (hR : jRR M L a) : jpp X (jm_s M L G) 66 [some (.ref 0)] 170 [some (.ref 101)] := by
  have hw := jw_44 hA.1
  obtain ⟨k1, ⟨k2, k3, k4, k5, k6⟩, k7⟩ := hC.1.1.2
  refine pp_ro hA hC hR (v := jc_J (ja_s a)) [(jc_W (ja_s a)).toInt64, (jc_br (ja_s a)).toInt64, (jc_lt (ja_s a)).toInt64] (Nat.le_of_ble_eq_true rfl) (fun Q hQ => ?_) (fun M1 L1 hR1 Q hQ => ?_)
  · rw [← k2, ← k3, ← k4, ← k5] at hQ
    refine rg_X5_total_0_0 (cl_v (ct_clear ⟨rfl, ?_⟩))
    exact rg_X5_total_0_7 (cl_v (ct_tell (l := []) (Nat.le_of_ble_eq_true rfl) ⟨rfl, rg_X5_total_0_22 (cl_v (ct_tell (l := [_]) (Nat.le_of_ble_eq_true rfl) ⟨rfl, rg_X5_total_0_37 (cl_v (ct_tell (l := [_, _]) (Nat.le_of_ble_eq_true rfl) ⟨rfl, rg_X5_total_0_52 hQ⟩))⟩))⟩))
  · refine rg_X6_total_101_0 (cl_v (ct_lay0 hR1.1.1 hw (fun M2 f hL hR2 => ⟨rfl, ?_⟩)))
    have hQ := hQ M2 f
    refine rg_X6_total_101_9 (cl_i (fun _ h => ct_wageOfAll (jL_w hL (by decide)) hw h) (rg_X6_total_101_19 (cl_v (ct_rtell (l := []) (Nat.le_of_ble_eq_true rfl) ⟨rfl, rg_X6_total_101_23 (cl_i (fun _ h => ct_bearer (jL_w hL (by decide)) hR2 hw h) (rg_X6_total_101_28 (cl_v (ct_rtell (l := [_]) (Nat.le_of_ble_eq_true rfl) ⟨rfl, rg_X6_total_101_32 (cl_i (fun _ h => ct_bearer (jL_w hL (by decide)) hR2 hw h) (rn_X6_total_101_37 ⟨fun h => ?_, fun h => ?_⟩))⟩))))⟩))))
    · rw [jc_lt_n h] at hQ
      exact cl_v (ct_rtell (l := [_, _]) (Nat.le_of_ble_eq_true rfl) ⟨rfl, rg_X6_total_101_53 (cl_i (fun _ h => ct_totalOf (jL_w hL (by decide)) hw h) (rg_X6_total_101_57 hQ))⟩)
    · rw [jc_lt_y h] at hQ
      exact cl_i (fun _ h => ct_lent (jL_w hL (by decide)) hR2 hw h) (rg_X6_total_101_49 (cl_v (ct_rtell (l := [_, _]) (Nat.le_of_ble_eq_true rfl) ⟨rfl, rg_X6_total_101_53 (cl_i (fun _ h => ct_totalOf (jL_w hL (by decide)) hw h) (rg_X6_total_101_57 hQ))⟩)))
end PP1b
