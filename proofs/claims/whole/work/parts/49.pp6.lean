/-! ===== pairs that may throw; count (written by wip/gen/gen_pp6.py) ===== -/
def jI1 (t : Int32) (L : Nat → Nat → Int64) (G : Nat → Nat → Option Nat) (σ : am_S) : Prop := ∃ M a, σ = jm_s M L G ∧ jAw a ∧ jC M L G a ∧ jRR M L a ∧ M 101 5 = t
/-- a call that may throw, and the reference's -/
def jpt (X : Nat × (Nat → Int32)) (M : Nat → Nat → Int32) (L : Nat → Nat → Int64) (G : Nat → Nat → Option Nat) (y : Nat) (lo : am_L) (z : Nat) (lp : am_L) : Prop := (∃ v, (∀ Q : am_Q, Q (some (some (.int v))) (jm_s M L G) → am_T X y 0 lo [] (jm_s M L G) (0, 0) Q) ∧ ∀ L1, L1 104 = L 104 → L1 4 = L 4 → am_T X z 0 lp [] (jm_s M L1 G) (0, 0) (am_qi (fun v' σ => v' = v ∧ jI1 0 L1 G σ))) ∨ ((∀ Q : am_Q, Q none (jm_s M L G) → am_T X y 0 lo [] (jm_s M L G) (0, 0) Q) ∧ ∀ L1, L1 104 = L 104 → L1 4 = L 4 → am_T X z 0 lp [] (jm_s M L1 G) (0, 0) (am_qi (fun _ σ => jI1 1 L1 G σ)))
def jpu (X : Nat × (Nat → Int32)) (M : Nat → Nat → Int32) (L : Nat → Nat → Int64) (G : Nat → Nat → Option Nat) (y : Nat) (lo : am_L) (z : Nat) (lp : am_L) : Prop := (∃ v, (∀ Q : am_Q, Q (some (some (.long v))) (jm_s M L G) → am_T X y 0 lo [] (jm_s M L G) (0, 0) Q) ∧ ∀ L1, L1 104 = L 104 → L1 4 = L 4 → am_T X z 0 lp [] (jm_s M L1 G) (0, 0) (am_ql (fun v' σ => v' = v ∧ jI1 0 L1 G σ))) ∨ ((∀ Q : am_Q, Q none (jm_s M L G) → am_T X y 0 lo [] (jm_s M L G) (0, 0) Q) ∧ ∀ L1, L1 104 = L 104 → L1 4 = L 4 → am_T X z 0 lp [] (jm_s M L1 G) (0, 0) (am_ql (fun _ σ => jI1 1 L1 G σ)))
theorem jI1_mk {M M2 : Nat → Nat → Int32} {L L1 : Nat → Nat → Int64} {G : Nat → Nat → Option Nat} {a : jA} {t : Int32} (hA : jAw a) (hC : jC M L G a) (hR : jRR M L a) (e1 : L1 104 = L 104) (e2 : L1 4 = L 4) (f : jfr M M2) (ht : M2 101 5 = t) : jI1 t L1 G (jm_s M2 L1 G) := ⟨M2, a, rfl, hA, jC_f hC (fun q hq => f.1 q (by omega) (by omega)) e2, jRR_id (jRR_f hR (fun _ _ _ => rfl) e1) f.1 f.2, ht⟩
theorem jm_b62 : (0 : Nat) + 1 ≤ am_bc 62 ∧ 0 + 6 ≤ am_bs 62 := by decide +kernel
theorem jm_b63 : (0 : Nat) + 1 ≤ am_bc 63 ∧ 0 + 6 ≤ am_bs 63 := by decide +kernel
theorem jm_b64 : (0 : Nat) + 1 ≤ am_bc 64 ∧ 0 + 6 ≤ am_bs 64 := by decide +kernel
theorem jm_b100 : (0 : Nat) + 1 ≤ am_bc 100 ∧ 0 + 6 ≤ am_bs 100 := by decide +kernel
def jm_dg (od : Nat → Int32) : Nat → Int32
  | 0 => 0
  | k + 1 => jm_dg od k * 10 + od k
theorem rp_X3_changedIndexes_5_4s {X : Nat × (Nat → Int32)} {M : Nat → Nat → Int32} {L : Nat → Nat → Int64} {G : Nat → Nat → Option Nat} {Q : am_Q} {x1 : Int32} {k : Nat} (hk : k < 30) (h : (((M 8 k) = 100 → (am_T X 41 4 [some (.ref 5), some (.int (x1 + 0)), some (.int (nI (k + 1)))] [] (jm_s M L G) (0, 0) Q)) ∧ (¬ (M 8 k) = 100 → (am_T X 41 4 [some (.ref 5), some (.int (x1 + 1)), some (.int (nI (k + 1)))] [] (jm_s M L G) (0, 0) Q)))) : am_T X 41 4 [some (.ref 5), some (.int x1), some (.int (nI k))] [] (jm_s M L G) (0, 0) Q := rg_X3_changedIndexes_5_4 (by
  rw [nI_clamp (show k < 2147483648 by omega), nI_1 k]
  exact ⟨fun e => absurd e (nI_ge hk (by decide)), fun _ => ⟨(vp_in_nI hk (by decide)), ⟨fun e1 => (h.1 e1), fun e1 => (h.2 e1)⟩⟩⟩)
theorem rp_X3_changedIndexes_5_4e {X : Nat × (Nat → Int32)} {M : Nat → Nat → Int32} {L : Nat → Nat → Int64} {G : Nat → Nat → Option Nat} {Q : am_Q} {x1 : Int32}  (h : Q (some (some (.int x1))) (jm_s M L G)) : am_T X 41 4 [some (.ref 5), some (.int x1), some (.int (nI 30))] [] (jm_s M L G) (0, 0) Q := rg_X3_changedIndexes_5_4 (by
  rw [nI_clamp (show 30 < 2147483648 by omega), nI_1 30]
  exact ⟨fun _ => h, fun e => absurd (nI_le (Nat.le_refl 30) (by decide)) e⟩)
theorem sl_X3_changedIndexes_5_4 {X : Nat × (Nat → Int32)} {M : Nat → Nat → Int32} {L : Nat → Nat → Int64} {G : Nat → Nat → Option Nat} {Q : am_Q}  (hQ : am_T X 41 4 [some (.ref 5), some (.int (jm_sm (fun k => (if (M 8 k) = 100 then 0 else 1)) 30)), some (.int (nI 30))] [] (jm_s M L G) (0, 0) Q) : am_T X 41 4 [some (.ref 5), some (.int 0), some (.int 0)] [] (jm_s M L G) (0, 0) Q := by
  refine lp_dn (P := fun k => am_T X 41 4 [some (.ref 5), some (.int (jm_sm (fun k => (if (M 8 k) = 100 then 0 else 1)) k)), some (.int (nI k))] [] (jm_s M L G) (0, 0) Q) 30 hQ ?_ 0 (Nat.zero_le _)
  intro k hk ih
  have ih2 : am_T X 41 4 [some (.ref 5), some (.int (jm_sm (fun k => (if (M 8 k) = 100 then 0 else 1)) k + (if (M 8 k) = 100 then 0 else 1))), some (.int (nI (k + 1)))] [] (jm_s M L G) (0, 0) Q := ih
  exact rp_X3_changedIndexes_5_4s hk ⟨fun h0 => (by
      rw [if_pos h0] at ih2
      exact ih2), fun h0 => (by
      rw [if_neg h0] at ih2
      exact ih2)⟩
theorem rp_X6_span_101_48s {X : Nat × (Nat → Int32)} {M : Nat → Nat → Int32} {L : Nat → Nat → Int64} {G : Nat → Nat → Option Nat} {Q : am_Q} {x1 : Int32} {x3 : Int32} {k : Nat} (hk : k < 360) (h : (((M 109 k) = x1 → (am_T X 152 48 [some (.ref 101), some (.int x1), none, some (.int (x3 + 1)), some (.int (nI (k + 1)))] [] (jm_s M L G) (0, 0) Q)) ∧ (¬ (M 109 k) = x1 → (am_T X 152 48 [some (.ref 101), some (.int x1), none, some (.int (x3 + 0)), some (.int (nI (k + 1)))] [] (jm_s M L G) (0, 0) Q)))) : am_T X 152 48 [some (.ref 101), some (.int x1), none, some (.int x3), some (.int (nI k))] [] (jm_s M L G) (0, 0) Q := rg_X6_span_101_48 (by
  rw [nI_clamp (show k < 2147483648 by omega), nI_1 k]
  exact ⟨fun e => absurd e (nI_ge hk (by decide)), fun _ => ⟨(vp_in_nI hk (by decide)), ⟨fun e1 => (h.2 e1), fun e1 => (h.1 e1)⟩⟩⟩)
theorem rp_X6_span_101_48e {X : Nat × (Nat → Int32)} {M : Nat → Nat → Int32} {L : Nat → Nat → Int64} {G : Nat → Nat → Option Nat} {Q : am_Q} {x1 : Int32} {x3 : Int32}  (h : Q (some (some (.int x3))) (jm_s M L G)) : am_T X 152 48 [some (.ref 101), some (.int x1), none, some (.int x3), some (.int (nI 360))] [] (jm_s M L G) (0, 0) Q := rg_X6_span_101_48 (by
  rw [nI_clamp (show 360 < 2147483648 by omega), nI_1 360]
  exact ⟨fun _ => h, fun e => absurd (nI_le (Nat.le_refl 360) (by decide)) e⟩)
theorem sl_X6_span_101_48 {X : Nat × (Nat → Int32)} {M : Nat → Nat → Int32} {L : Nat → Nat → Int64} {G : Nat → Nat → Option Nat} {Q : am_Q} {x1 : Int32} (hQ : am_T X 152 48 [some (.ref 101), some (.int x1), none, some (.int (jm_sm (fun k => (if (M 109 k) = x1 then 1 else 0)) 360)), some (.int (nI 360))] [] (jm_s M L G) (0, 0) Q) : am_T X 152 48 [some (.ref 101), some (.int x1), none, some (.int 0), some (.int 0)] [] (jm_s M L G) (0, 0) Q := by
  refine lp_dn (P := fun k => am_T X 152 48 [some (.ref 101), some (.int x1), none, some (.int (jm_sm (fun k => (if (M 109 k) = x1 then 1 else 0)) k)), some (.int (nI k))] [] (jm_s M L G) (0, 0) Q) 360 hQ ?_ 0 (Nat.zero_le _)
  intro k hk ih
  have ih2 : am_T X 152 48 [some (.ref 101), some (.int x1), none, some (.int (jm_sm (fun k => (if (M 109 k) = x1 then 1 else 0)) k + (if (M 109 k) = x1 then 1 else 0))), some (.int (nI (k + 1)))] [] (jm_s M L G) (0, 0) Q := ih
  exact rp_X6_span_101_48s hk ⟨fun h0 => (by
      rw [if_pos h0] at ih2
      exact ih2), fun h0 => (by
      rw [if_neg h0] at ih2
      exact ih2)⟩
section PP6
variable {X : Nat × (Nat → Int32)} {M : Nat → Nat → Int32} {L : Nat → Nat → Int64} {G : Nat → Nat → Option Nat} {Q : am_Q} {a : jA}
theorem ct_has_y {s : jS} (hS : jh M 5 s) {k : Nat} (hk : k < jn s) (hn : jn s ≤ 44) (hQ : Q (some (some (.int 1))) (jm_s M L G)) : am_T X 27 0 [some (.ref 5), some (.int (nI k))] [] (jm_s M L G) (0, 0) Q := by
  refine rn_X3_has_5_0 ⟨fun h => absurd h (nI_pos (by omega)), fun _ => ⟨fun h => absurd h ?_, fun _ => hQ⟩⟩
  rw [hS.1]
  exact nI_ge hk (by omega)
theorem ct_has_n {s : jS} (hS : jh M 5 s) {x : Int32} (hx : x < 0 ∨ nI (jn s) ≤ x) (hQ : Q (some (some (.int 0))) (jm_s M L G)) : am_T X 27 0 [some (.ref 5), some (.int x)] [] (jm_s M L G) (0, 0) Q := by
  refine rn_X3_has_5_0 ⟨fun _ => hQ, fun h => ⟨fun _ => hQ, fun h2 => absurd hx (fun h3 => h3.elim h ?_)⟩⟩
  rw [← hS.1]
  exact h2
theorem rs_n {s : jS} {x : Int32} {f : Nat → Int32} (hR : jR f s) (hn : jn s ≤ 44) (hx : x < 0 ∨ nI (jn s) ≤ x) : jb (decide (0 ≤ x ∧ x ≤ f 0 - 1)) = 0 := by
  rw [hR.1]
  rcases hx with h | h
  · exact ri_n (Or.inl h)
  · by_cases hz : jn s = 0
    · rw [hz] at h ⊢
      refine jb_n (decide_eq_false (fun e => ?_))
      have h3 := Int32.le_trans h e.2
      exact absurd h3 (by decide)
    · refine ri_n (Or.inr ?_)
      have e : nI (jn s) - 1 = nI (jn s - 1) := pk_sub (b := 1) (by omega)
      rw [e]
      exact Int32.lt_of_lt_of_le (nI_lt (show jn s - 1 < jn s by omega) (by omega)) h
theorem rs_y {s : jS} {k : Nat} {f : Nat → Int32} (hR : jR f s) (hn : jn s ≤ 44) (hk : k < jn s) : jb (decide (0 ≤ nI k ∧ nI k ≤ f 0 - 1)) = 1 := by
  rw [hR.1]
  have e : nI (jn s) - 1 = nI (jn s - 1) := pk_sub (b := 1) (by omega)
  rw [e]
  exact ri_y (nI_pos' (by omega)) (nI_le (by omega) (by omega))
theorem ct_lay1 {s : jS} (hR : jR (M 102) s) (hw : jw s 44) (hQ : ∀ M2, jfr M M2 → M2 101 5 = 0 → jL M2 s → jR (M2 102) s → Q (some none) (jm_s M2 L G)) : am_T X 150 0 [some (.ref 101), none, none] [] (jm_s (wi_m M 101 5 0) L G) (0, 0) Q := by
  refine ct_layMonths (s := s) hR hw (fun M2 f1 f2 hL => hQ M2 ⟨fun q h1 h2 => ?_, fun i h1 h2 => ?_⟩ ?_ hL ?_)
  · rw [f1 q h1 h2, wi_m_p _ _ h1]
  · rw [f2 i h2, wi_m_eq, if_pos rfl, if_neg h1]
  · rw [f2 5 (by decide), wi_m_i]
  · rw [f1 102 (by decide) (by decide)]
    exact hR
theorem ct_lost (hQ : Q (some (some (.int 0))) (jm_s (wi_m M 101 5 1) L G)) : am_T X 125 0 [some (.ref 101)] [] (jm_s M L G) (0, 0) Q := rg_X6_lost_101_0 hQ
theorem jfr_1 (M : Nat → Nat → Int32) : jfr M (wi_m (wi_m M 101 5 0) 101 5 1) := by
  rw [wi_m_2]
  exact jfr_0 M 1
theorem jfr_w {M M2 : Nat → Nat → Int32} {v : Int32} (h : jfr M M2) : jfr M (wi_m M2 101 5 v) := ⟨fun q h1 h2 => by rw [wi_m_p _ _ h1, h.1 q h1 h2], fun i h1 h2 => by rw [wi_m_eq, if_pos rfl, if_neg h1, h.2 i h1 h2]⟩
theorem pt_span (hA : jAw a) (hC : jC M L G a) (hR : jRR M L a) (x y : Int32) : jpt X M L G 62 [some (.ref 0), some (.int x), some (.int y)] 152 [some (.ref 101), some (.int x), some (.int y), none, none] := by
  have hw := jw_44 hA.1
  have hS := hC.1.1.1
  have hn := hA.1.1
  obtain ⟨k1, -⟩ := hC.1.1.2
  have hR0 : jR ((wi_m M 101 5 0) 102) (ja_s a) := hR.1.1
  rcases jx_case (jn (ja_s a)) (by omega) x with h | ⟨k, hk, rfl⟩
  · refine Or.inr ⟨fun Q hQ => rg_X5_span_0_0 (cl_i (fun _ h' => ct_has_n hS h h') (rn_X5_span_0_8 ⟨fun _ => ⟨jm_b62, hQ⟩, fun e => absurd rfl e⟩)), fun L1 e1 e2 => rg_X6_span_101_0 (cl_i (fun _ h' => ct_isSpan h') ?_)⟩
    rw [rs_n hR0 hw.1 h]
    exact rn_X6_span_101_10 ⟨fun _ => cl_i (fun _ h => ct_lost h) (rg_X6_span_101_26 ⟨_, rfl, jI1_mk hA hC hR e1 e2 (jfr_1 M) (wi_m_i _ _ _ _)⟩), fun e => absurd rfl e⟩
  rcases jx_case 6 (by decide) y with h | ⟨w, hw6, rfl⟩
  · refine Or.inr ⟨fun Q hQ => rg_X5_span_0_0 (cl_i (fun _ h' => ct_has_y hS hk (by omega) h') (rn_X5_span_0_8 ⟨fun e => absurd e (by decide), fun _ => ⟨fun _ => ⟨jm_b62, hQ⟩, fun h0 => ⟨fun h5 => ?_, fun _ => ⟨jm_b62, hQ⟩⟩⟩⟩)), fun L1 e1 e2 => rg_X6_span_101_0 (cl_i (fun _ h' => ct_isSpan h') ?_)⟩
    · rcases h with h | h
      · exact absurd h h0
      · exact absurd (Int32.le_trans h h5) (by decide)
    rw [rs_y hR0 hw.1 hk]
    refine rn_X6_span_101_10 ⟨fun e => absurd e (by decide), fun _ => cl_i (fun _ h' => ct_in h') ?_⟩
    have hn6 : jb (decide (0 ≤ y ∧ y ≤ 5)) = 0 := ri_n (h.imp id (fun h => nI_lt_of (b := 5) (by decide) h))
    rw [hn6]
    exact rn_X6_span_101_19 ⟨fun _ => cl_i (fun _ h => ct_lost h) (rg_X6_span_101_26 ⟨_, rfl, jI1_mk hA hC hR e1 e2 (jfr_1 M) (wi_m_i _ _ _ _)⟩), fun e => absurd rfl e⟩
  have hy6 : jb (decide (0 ≤ nI w ∧ nI w ≤ 5)) = 1 := ri_y (nI_pos' (by omega)) (nI_le (show w ≤ 5 by omega) (by decide))
  have cl : ∀ Q : am_Q, ((nI w = 5 → (∃ K : Int32 → am_S → Prop, am_T X 18 0 [some (.ref 16), some (.int (nI k)), none, none] [] (jm_s M L G) (0, 0) (am_qi K) ∧ ∀ v σ', K v σ' → am_T X 62 46 [none, none, none] [(.int v)] σ' (0, 0) Q)) ∧ (¬ nI w = 5 → (∃ K : Int32 → am_S → Prop, am_T X 28 0 [some (.ref 5), some (.int (nI k)), some (.int (nI w))] [] (jm_s M L G) (0, 0) (am_qi K) ∧ ∀ v σ', K v σ' → am_T X 62 58 [none, none, none] [(.int v)] σ' (0, 0) Q))) → am_T X 62 0 [some (.ref 0), some (.int (nI k)), some (.int (nI w))] [] (jm_s M L G) (0, 0) Q := fun Q hQ => rg_X5_span_0_0 (cl_i (fun _ h' => ct_has_y hS hk (by omega) h') (rn_X5_span_0_8 ⟨fun e => absurd e (by decide), fun _ => ⟨fun e => absurd e (nI_pos (by omega)), fun _ => ⟨fun _ => hQ, fun e => absurd (nI_le (show w ≤ 5 by omega) (by decide)) e⟩⟩⟩))
  have rl : ∀ L1 (Q : am_Q), ((5 ≤ nI w → (∃ K : am_S → Prop, am_T X 150 0 [some (.ref 101), none, none] [] (jm_s (wi_m M 101 5 0) L1 G) (0, 0) (am_qv K) ∧ ∀ σ', K σ' → am_T X 152 43 [some (.ref 101), some (.int (nI k)), none, none, none] [] σ' (0, 0) Q)) ∧ (¬ 5 ≤ nI w → (∃ K : Int32 → am_S → Prop, am_T X 127 0 [some (.ref 101), some (.int (nI k)), some (.int (nI w))] [] (jm_s (wi_m M 101 5 0) L1 G) (0, 0) (am_qi K) ∧ ∀ v σ', K v σ' → am_T X 152 38 [none, none, none, none, none] [(.int v)] σ' (0, 0) Q))) → am_T X 152 0 [some (.ref 101), some (.int (nI k)), some (.int (nI w)), none, none] [] (jm_s M L1 G) (0, 0) Q := by
    intro L1 Q hQ
    refine rg_X6_span_101_0 (cl_i (fun _ h' => ct_isSpan h') ?_)
    rw [rs_y hR0 hw.1 hk]
    refine rn_X6_span_101_10 ⟨fun e => absurd e (by decide), fun _ => cl_i (fun _ h' => ct_in h') ?_⟩
    rw [hy6]
    exact rn_X6_span_101_19 ⟨fun e => absurd e (by decide), fun _ => hQ⟩
  by_cases h5 : w = 5
  · subst h5
    refine Or.inl ⟨jm_sm (fun m => if jc_by (ja_s a) m = nI k then 1 else 0) 360, fun Q hQ => cl Q ⟨fun _ => cl_i (fun _ h => ct_countedBy_16 h) (rg_X5_span_0_46 (rg_X5_span_0_58 ?_)), fun e => absurd rfl e⟩, fun L1 e1 e2 => rl L1 _ ⟨fun _ => cl_v (ct_lay1 hR.1.1 hw (fun M2 f f5 hL hR2 => ⟨rfl, rg_X6_span_101_43 (sl_X6_span_101_48 (rp_X6_span_101_48e ⟨_, rfl, jm_sm_cong (fun m hm => by rw [(hL.1 m hm).2.2.2.1]), jI1_mk hA hC hR e1 e2 f f5⟩))⟩)), fun e => absurd (nI_le (Nat.le_refl 5) (by decide)) e⟩⟩
    · rw [jm_sm_cong (g := fun m => if jc_by (ja_s a) m = nI k then 1 else 0) (fun m hm => by rw [show M 19 m = _ from (k1.1 m hm).2.1])]
      exact hQ
  · have h5' : ¬ nI w = 5 := jm_ne (b := 5) (by omega) (by decide) h5
    refine Or.inl ⟨jm_of (jsp (ja_s a)) k w, fun Q hQ => cl Q ⟨fun e => absurd e h5', fun _ => cl_i (fun _ h => ct_numberOf_s hS hn hk (show w < 5 by omega) h) (rg_X5_span_0_58 hQ)⟩, fun L1 e1 e2 => rl L1 _ ⟨fun e => ?_, fun _ => cl_i (fun _ h => ct_of_s hR0 hw.1 hk (show w < 5 by omega) h) (rg_X6_span_101_38 ⟨_, rfl, rfl, jI1_mk hA hC hR e1 e2 (jfr_0 M 0) (wi_m_i _ _ _ _)⟩)⟩⟩
    have := (nI_le_iff (show 5 < 2147483648 by decide) (show w < 2147483648 by omega)).mp e
    omega
theorem ct_isLawNumber_y {c : Nat} (hc : c < 4) (hQ : Q (some (some (.int 1))) (jm_s M L G)) : am_T X 104 0 [some (.int (nI c))] [] (jm_s M L G) (0, 0) Q :=
  rn_X5_isLawNumber_0 ⟨fun h => absurd h (nI_pos (by omega)), fun _ => ⟨fun h => absurd h (nI_ge hc (by decide)), fun _ => hQ⟩⟩
theorem ct_isLawNumber_n {x : Int32} (hx : x < 0 ∨ nI 4 ≤ x) (hQ : Q (some (some (.int 0))) (jm_s M L G)) : am_T X 104 0 [some (.int x)] [] (jm_s M L G) (0, 0) Q :=
  rn_X5_isLawNumber_0 ⟨fun _ => hQ, fun h => ⟨fun _ => hQ, fun h2 => absurd hx (fun h3 => h3.elim h h2)⟩⟩
theorem pt_law (hA : jAw a) (hC : jC M L G a) (hR : jRR M L a) (x y : Int32) : jpt X M L G 63 [some (.ref 0), some (.int x), some (.int y)] 153 [some (.ref 101), some (.int x), some (.int y)] := by
  have hS := hC.1.1.1
  have hR0 : jR ((wi_m M 101 5 0) 102) (ja_s a) := hR.1.1
  rcases jx_case 5 (by decide) x with h | ⟨c, hc, rfl⟩
  · refine Or.inr ⟨fun Q hQ => rg_X5_law_0_0 (cl_i (fun _ h' => ct_isCountry_n h h') (rn_X5_law_0_4 ⟨fun _ => ⟨jm_b63, hQ⟩, fun e => absurd rfl e⟩)), fun L1 e1 e2 => rg_X6_law_101_0 (cl_i (fun _ h' => ct_risCountry h') ?_)⟩
    rw [rc_n h]
    exact rn_X6_law_101_9 ⟨fun _ => cl_i (fun _ h => ct_lost h) (rg_X6_law_101_42 ⟨_, rfl, jI1_mk hA hC hR e1 e2 (jfr_1 M) (wi_m_i _ _ _ _)⟩), fun e => absurd rfl e⟩
  rcases jx_case 4 (by decide) y with h | ⟨w, hw4, rfl⟩
  · refine Or.inr ⟨fun Q hQ => rg_X5_law_0_0 (cl_i (fun _ h' => ct_isCountry_y hc h') (rn_X5_law_0_4 ⟨fun e => absurd e (by decide), fun _ => cl_i (fun _ h' => ct_isLawNumber_n h h') (rn_X5_law_0_11 ⟨fun _ => ⟨jm_b63, hQ⟩, fun e => absurd rfl e⟩)⟩)), fun L1 e1 e2 => rg_X6_law_101_0 (cl_i (fun _ h' => ct_risCountry h') ?_)⟩
    rw [rc_y hc]
    refine rn_X6_law_101_9 ⟨fun e => absurd e (by decide), fun _ => cl_i (fun _ h' => ct_in h') ?_⟩
    have hn6 : jb (decide (0 ≤ y ∧ y ≤ 3)) = 0 := ri_n (h.imp id (fun h => nI_lt_of (b := 3) (by decide) h))
    rw [hn6]
    exact rn_X6_law_101_18 ⟨fun _ => cl_i (fun _ h => ct_lost h) (rg_X6_law_101_42 ⟨_, rfl, jI1_mk hA hC hR e1 e2 (jfr_1 M) (wi_m_i _ _ _ _)⟩), fun e => absurd rfl e⟩
  have hy6 : jb (decide (0 ≤ nI w ∧ nI w ≤ 3)) = 1 := ri_y (nI_pos' (by omega)) (nI_le (show w ≤ 3 by omega) (by decide))
  refine Or.inl ⟨jlw (ja_s a) (4 * c + w), fun Q hQ => rg_X5_law_0_0 (cl_i (fun _ h' => ct_isCountry_y hc h') (rn_X5_law_0_4 ⟨fun e => absurd e (by decide), fun _ => cl_i (fun _ h' => ct_isLawNumber_y hw4 h') (rn_X5_law_0_11 ⟨fun e => absurd e (by decide), fun _ => cl_i (fun _ h => ct_lawOf_5 (show 4 * c + w < 20 by omega) h) (rg_X5_law_0_33 ?_)⟩)⟩)), fun L1 e1 e2 => rg_X6_law_101_0 (cl_i (fun _ h' => ct_risCountry h') ?_)⟩
  · rw [show M 6 (4 * c + w) = _ from hS.2.2.1 (4 * c + w) (by omega)]
    exact hQ
  rw [rc_y hc]
  refine rn_X6_law_101_9 ⟨fun e => absurd e (by decide), fun _ => cl_i (fun _ h' => ct_in h') ?_⟩
  rw [hy6]
  refine rn_X6_law_101_18 ⟨fun e => absurd e (by decide), fun _ => ?_⟩
  rw [jr_law c w, nI_clamp (show 221 + (4 * c + w) < 2147483648 by omega), hR0.2.2.1 (4 * c + w) (by omega)]
  exact ⟨vp_in_nI (by omega) (by decide), rg_X6_law_101_42 ⟨_, rfl, rfl, jI1_mk hA hC hR e1 e2 (jfr_0 M 0) (wi_m_i _ _ _ _)⟩⟩
theorem pt_month (hA : jAw a) (hC : jC M L G a) (hR : jRR M L a) (x y : Int32) : jpt X M L G 64 [some (.ref 0), some (.int x), some (.int y), none] 154 [some (.ref 101), some (.int x), some (.int y)] := by
  have hw := jw_44 hA.1
  obtain ⟨k1, -⟩ := hC.1.1.2
  rcases jx_case 360 (by decide) x with h | ⟨m, hm, rfl⟩
  · refine Or.inr ⟨fun Q hQ => rg_X5_month_0_0 (cl_i (fun _ h' => ct_isMonth_n h h') (rn_X5_month_0_4 ⟨fun _ => ⟨jm_b64, hQ⟩, fun e => absurd rfl e⟩)), fun L1 e1 e2 => rg_X6_month_101_0 (cl_i (fun _ h' => ct_risMonth h') ?_)⟩
    rw [rm_n h]
    exact rn_X6_month_101_9 ⟨fun _ => cl_i (fun _ h => ct_lost h) (rg_X6_month_101_16 ⟨_, rfl, jI1_mk hA hC hR e1 e2 (jfr_1 M) (wi_m_i _ _ _ _)⟩), fun e => absurd rfl e⟩
  have hv : vp_in (nI m) 360 := jm_in hm
  have kk := k1.1 m hm
  have rl : ∀ L1 (Q : am_Q), (∀ M2, jfr M M2 → M2 101 5 = 0 → jL M2 (ja_s a) → am_T X 154 21 [some (.ref 101), some (.int (nI m)), some (.int y)] [] (jm_s M2 L1 G) (0, 0) Q) → am_T X 154 0 [some (.ref 101), some (.int (nI m)), some (.int y)] [] (jm_s M L1 G) (0, 0) Q := by
    intro L1 Q hQ
    refine rg_X6_month_101_0 (cl_i (fun _ h' => ct_risMonth h') ?_)
    rw [rm_y hm]
    exact rn_X6_month_101_9 ⟨fun e => absurd e (by decide), fun _ => cl_v (ct_lay1 hR.1.1 hw (fun M2 f f5 hL hR2 => ⟨rfl, hQ M2 f f5 hL⟩))⟩
  rcases jx_case 5 (by decide) y with h | ⟨w, hw5, rfl⟩
  · have hy : y ≠ 0 ∧ y ≠ 1 ∧ y ≠ 2 ∧ y ≠ 3 ∧ y ≠ 4 := by
      refine ⟨?_, ?_, ?_, ?_, ?_⟩ <;> intro e <;> subst e <;> rcases h with h | h <;> exact absurd h (by decide)
    refine Or.inr ⟨fun Q hQ => rg_X5_month_0_0 (cl_i (fun _ h' => ct_isMonth_y hm h') (rn_X5_month_0_4 ⟨fun e => absurd e (by decide), fun _ => ⟨fun _ => ⟨jm_b64, hQ⟩, fun h0 => ⟨fun h4 => ?_, fun _ => ⟨jm_b64, hQ⟩⟩⟩⟩)), fun L1 e1 e2 => rl L1 _ (fun M2 f f5 hL => ?_)⟩
    · rcases h with h | h
      · exact absurd h h0
      · exact absurd (Int32.le_trans h h4) (by decide)
    · refine rn_X6_month_101_21 ⟨fun e => absurd e hy.1, fun _ => ⟨fun e => absurd e hy.2.1, fun _ => ⟨fun e => absurd e hy.2.2.1, fun _ => ⟨fun e => absurd e hy.2.2.2.1, fun _ => ⟨fun e => absurd e hy.2.2.2.2, fun _ => cl_i (fun _ h => ct_lost h) (rg_X6_month_101_95 ⟨_, rfl, jI1_mk hA hC hR e1 e2 (jfr_w f) (wi_m_i _ _ _ _)⟩)⟩⟩⟩⟩⟩
  have cl : ∀ Q : am_Q, _ → am_T X 64 0 [some (.ref 0), some (.int (nI m)), some (.int (nI w)), none] [] (jm_s M L G) (0, 0) Q := fun Q hQ => rg_X5_month_0_0 (cl_i (fun _ h' => ct_isMonth_y hm h') (rn_X5_month_0_4 ⟨fun e => absurd e (by decide), fun _ => ⟨fun e => absurd e (nI_pos (by omega)), fun _ => ⟨fun _ => hQ, fun e => absurd (nI_le (show w ≤ 4 by omega) (by decide)) e⟩⟩⟩))
  have w5 : w = 0 ∨ w = 1 ∨ w = 2 ∨ w = 3 ∨ w = 4 := by omega
  rcases w5 with e | e | e | e | e
  · subst e
    refine Or.inl ⟨jc_so (ja_s a) m, fun Q hQ => cl Q ⟨fun _ => cl_i (fun _ h => ct_wayOf_16 hm h) (rg_X5_month_0_69 ?_), fun e => absurd rfl e⟩, fun L1 e1 e2 => rl L1 _ (fun M2 f f5 hL => rn_X6_month_101_21 ⟨fun _ => ⟨hv, ?_⟩, fun e => absurd rfl e⟩)⟩
    · rw [show M 19 m = _ from kk.2.1, show M 20 m = _ from kk.2.2.1]
      exact hQ
    · rw [jm_cl hm]
      exact ⟨_, rfl, (hL.1 m hm).1, jI1_mk hA hC hR e1 e2 f f5⟩
  · subst e
    refine Or.inl ⟨jc_ld (ja_s a) m, fun Q hQ => cl Q ⟨fun e => absurd e (by decide), fun _ => ⟨fun _ => ⟨hv, ?_⟩, fun e => absurd rfl e⟩⟩, fun L1 e1 e2 => rl L1 _ (fun M2 f f5 hL => rn_X6_month_101_21 ⟨fun e => absurd e (by decide), fun _ => ⟨fun _ => ⟨hv, ?_⟩, fun e => absurd rfl e⟩⟩)⟩
    · rw [jm_cl hm, show M 20 m = _ from kk.2.2.1]
      exact hQ
    · rw [jm_cl hm]
      exact ⟨_, rfl, (hL.1 m hm).2.1, jI1_mk hA hC hR e1 e2 f f5⟩
  · subst e
    refine Or.inl ⟨jc_wg (ja_s a) m, fun Q hQ => cl Q ⟨fun e => absurd e (by decide), fun _ => ⟨fun e => absurd e (by decide), fun _ => ⟨fun _ => ⟨hv, ?_⟩, fun e => absurd rfl e⟩⟩⟩, fun L1 e1 e2 => rl L1 _ (fun M2 f f5 hL => rn_X6_month_101_21 ⟨fun e => absurd e (by decide), fun _ => ⟨fun e => absurd e (by decide), fun _ => ⟨fun _ => ⟨hv, ?_⟩, fun e => absurd rfl e⟩⟩⟩)⟩
    · rw [jm_cl hm, show M 21 m = _ from kk.2.2.2]
      exact hQ
    · rw [jm_cl hm]
      exact ⟨_, rfl, (hL.1 m hm).2.2.1, jI1_mk hA hC hR e1 e2 f f5⟩
  · subst e
    refine Or.inl ⟨jc_by (ja_s a) m, fun Q hQ => cl Q ⟨fun e => absurd e (by decide), fun _ => ⟨fun e => absurd e (by decide), fun _ => ⟨fun e => absurd e (by decide), fun _ => ⟨fun _ => ⟨hv, ?_⟩, fun e => absurd rfl e⟩⟩⟩⟩, fun L1 e1 e2 => rl L1 _ (fun M2 f f5 hL => rn_X6_month_101_21 ⟨fun e => absurd e (by decide), fun _ => ⟨fun e => absurd e (by decide), fun _ => ⟨fun e => absurd e (by decide), fun _ => ⟨fun _ => ⟨hv, ?_⟩, fun e => absurd rfl e⟩⟩⟩⟩)⟩
    · rw [jm_cl hm, show M 19 m = _ from kk.2.1]
      exact hQ
    · rw [jm_cl hm]
      exact ⟨_, rfl, (hL.1 m hm).2.2.2.1, jI1_mk hA hC hR e1 e2 f f5⟩
  · subst e
    refine Or.inl ⟨jc_cv (ja_s a) m, fun Q hQ => cl Q ⟨fun e => absurd e (by decide), fun _ => ⟨fun e => absurd e (by decide), fun _ => ⟨fun e => absurd e (by decide), fun _ => ⟨fun e => absurd e (by decide), fun _ => ⟨hv, ?_⟩⟩⟩⟩⟩, fun L1 e1 e2 => rl L1 _ (fun M2 f f5 hL => rn_X6_month_101_21 ⟨fun e => absurd e (by decide), fun _ => ⟨fun e => absurd e (by decide), fun _ => ⟨fun e => absurd e (by decide), fun _ => ⟨fun e => absurd e (by decide), fun _ => ⟨fun _ => ⟨hv, ?_⟩, fun e => absurd rfl e⟩⟩⟩⟩⟩)⟩
    · rw [jm_cl hm, show M 18 m = _ from kk.1]
      exact hQ
    · rw [jm_cl hm]
      exact ⟨_, rfl, (hL.1 m hm).2.2.2.2, jI1_mk hA hC hR e1 e2 f f5⟩
theorem pt_row (hA : jAw a) (hC : jC M L G a) (hR : jRR M L a) (x : Int32) : jpu X M L G 100 [some (.ref 0), some (.int x)] 225 [some (.ref 101), some (.int x)] := by
  have hlen := hA.2.2.2.2
  have hr := hC.2.2
  have hr2 := hR.2.2
  rcases jx_case (ja_r a).length (by omega) x with h | ⟨k, hk, rfl⟩
  · refine Or.inr ⟨fun Q hQ => rn_X5_row_0_0 ⟨fun _ => ⟨jm_b100, hQ⟩, fun h0 => ⟨fun h1 => ?_, fun _ => ⟨jm_b100, hQ⟩⟩⟩, fun L1 e1 e2 => rg_X6_row_101_0 (cl_i (fun _ h' => ct_in h') ?_)⟩
    · rw [hr.1] at h1
      rcases h with h | h
      · exact absurd h h0
      · exact absurd h (Int32.not_le.mpr h1)
    have hz : jb (decide (0 ≤ x ∧ x ≤ M 101 4 - 1)) = 0 := by
      rw [hr2.1]
      rcases h with h | h
      · exact ri_n (Or.inl h)
      · by_cases hz : (ja_r a).length = 0
        · rw [hz] at h ⊢
          refine jb_n (decide_eq_false (fun e => ?_))
          have h3 := Int32.le_trans h e.2
          exact absurd h3 (by decide)
        · refine ri_n (Or.inr ?_)
          have e : nI (ja_r a).length - 1 = nI ((ja_r a).length - 1) := pk_sub (b := 1) (by omega)
          rw [e]
          exact Int32.lt_of_lt_of_le (nI_lt (show (ja_r a).length - 1 < (ja_r a).length by omega) (by omega)) h
    rw [hz]
    exact rn_X6_row_101_16 ⟨fun _ => cl_i (fun _ h => ct_lost h) (rg_X6_row_101_32 ⟨_, rfl, jI1_mk hA hC hR e1 e2 (jfr_1 M) (wi_m_i _ _ _ _)⟩), fun e => absurd rfl e⟩
  · refine Or.inl ⟨(ja_r a).getD k 0, fun Q hQ => rn_X5_row_0_0 ⟨fun e => absurd e (nI_pos (by omega)), fun _ => ⟨fun _ => ⟨vp_in_nI (by omega) (by decide), ?_⟩, fun e => absurd ?_ e⟩⟩, fun L1 e1 e2 => rg_X6_row_101_0 (cl_i (fun _ h' => ct_in h') ?_)⟩
    · rw [nI_clamp (show k < 2147483648 by omega), hr.2 k hk]
      exact hQ
    · rw [hr.1]
      exact nI_lt hk (by omega)
    have hy : jb (decide (0 ≤ nI k ∧ nI k ≤ M 101 4 - 1)) = 1 := by
      rw [hr2.1]
      have e : nI (ja_r a).length - 1 = nI ((ja_r a).length - 1) := pk_sub (b := 1) (by omega)
      rw [e]
      exact ri_y (nI_pos' (by omega)) (nI_le (by omega) (by omega))
    rw [hy]
    refine rn_X6_row_101_16 ⟨fun e => absurd e (by decide), fun _ => ⟨vp_in_nI (by omega) (by decide), ?_⟩⟩
    rw [nI_clamp (show k < 2147483648 by omega), e1, hr2.2 k hk]
    exact ⟨_, rfl, rfl, jI1_mk hA hC hR e1 e2 (jfr_0 M 0) (wi_m_i _ _ _ _)⟩
theorem ct_orderAsDigits {s : jS} (hS : jh M 5 s) (hQ : Q (some (some (.int (jm_dg (jod s) 4)))) (jm_s M L G)) : am_T X 40 0 [some (.ref 5), none, none] [] (jm_s M L G) (0, 0) Q := by
  refine rg_X3_orderAsDigits_5_0 ?_
  refine lp_dn (P := fun k => am_T X 40 4 [some (.ref 5), some (.int (jm_dg (jod s) k)), some (.int (nI k))] [] (jm_s M L G) (0, 0) Q) 4 ?_ ?_ 0 (by decide)
  · exact rn_X3_orderAsDigits_5_4 ⟨fun _ => hQ, fun h => absurd (nI_le (Nat.le_refl 4) (by decide)) h⟩
  · intro k hk ih
    refine rn_X3_orderAsDigits_5_4 ⟨fun h => absurd h (nI_ge hk (by decide)), fun _ => ⟨vp_in_nI hk (by decide), ?_⟩⟩
    rw [nI_clamp (show k < 2147483648 by omega), nI_1, show M 7 k = _ from hS.2.2.2.1 k hk]
    exact ih
theorem ct_ranksTold {s : jS} (hR : jR (M 102) s) (hQ : Q (some (some (.int (jm_dg (jod s) 4)))) (jm_s M L G)) : am_T X 222 0 [some (.ref 101), none, none] [] (jm_s M L G) (0, 0) Q := by
  refine rg_X6_ranksTold_101_0 ?_
  refine lp_dn (P := fun k => am_T X 222 4 [some (.ref 101), some (.int (jm_dg (jod s) k)), some (.int (nI k))] [] (jm_s M L G) (0, 0) Q) 4 ?_ ?_ 0 (by decide)
  · exact rn_X6_ranksTold_101_4 ⟨fun _ => hQ, fun h => absurd (nI_le (Nat.le_refl 4) (by decide)) h⟩
  · intro k hk ih
    refine rn_X6_ranksTold_101_4 ⟨fun h => absurd h (nI_ge hk (by decide)), fun _ => ?_⟩
    rw [show (241 : Int32) + nI k = nI (241 + k) from nI_add 241 k, nI_clamp (show 241 + k < 2147483648 by omega), nI_1, hR.2.2.2.1 k hk, Int32.mul_comm]
    exact ⟨vp_in_nI (by omega) (by decide), ih⟩
theorem ct_changedIndexes {s : jS} (hS : jh M 5 s) (hQ : Q (some (some (.int (jm_sm (fun y => if jix s y = 100 then 0 else 1) 30)))) (jm_s M L G)) : am_T X 41 0 [some (.ref 5), none, none] [] (jm_s M L G) (0, 0) Q := by
  refine rg_X3_changedIndexes_5_0 (sl_X3_changedIndexes_5_4 (rp_X3_changedIndexes_5_4e ?_))
  rw [jm_sm_cong (g := fun y => if jix s y = 100 then 0 else 1) (fun k hk => by rw [show M 8 k = _ from hS.2.2.2.2.1 k hk])]
  exact hQ
theorem ct_indexed {s : jS} (hR : jR (M 102) s) (hQ : Q (some (some (.int (jm_sm (fun y => if jix s y = 100 then 0 else 1) 30)))) (jm_s M L G)) : am_T X 223 0 [some (.ref 101), none, none] [] (jm_s M L G) (0, 0) Q := by
  refine rg_X6_indexed_101_0 ?_
  refine lp_dn (P := fun k => am_T X 223 4 [some (.ref 101), some (.int (jm_sm (fun y => if jix s y = 100 then 0 else 1) k)), some (.int (nI k))] [] (jm_s M L G) (0, 0) Q) 30 ?_ ?_ 0 (by decide)
  · exact rn_X6_indexed_101_4 ⟨fun _ => hQ, fun h => absurd (nI_le (Nat.le_refl 30) (by decide)) h⟩
  · intro k hk ih
    rw [jm_sm_s] at ih
    refine rn_X6_indexed_101_4 ⟨fun h => absurd h (nI_ge hk (by decide)), fun _ => ?_⟩
    rw [show (247 : Int32) + nI k = nI (247 + k) from nI_add 247 k, nI_clamp (show 247 + k < 2147483648 by omega), nI_1, hR.2.2.2.2.2.2 k hk]
    refine ⟨vp_in_nI (by omega) (by decide), fun h => ?_, fun h => ?_⟩
    · rw [if_pos h] at ih
      exact ih
    · rw [if_neg h] at ih
      exact ih
theorem pp_count (hA : jAw a) (hC : jC M L G a) (hR : jRR M L a) (x : Int32) : jpp X (jm_s M L G) 99 [some (.ref 0), some (.int x)] 224 [some (.ref 101), some (.int x)] := by
  have hw := jw_44 hA.1
  have hS := hC.1.1.1
  obtain ⟨k1, ⟨k2, k3, k4, k5, k6⟩, k7⟩ := hC.1.1.2
  have hR0 : jR ((wi_m M 101 5 0) 102) (ja_s a) := hR.1.1
  by_cases h0 : x = 0
  · refine pp_rd hA hC hR (v := nI (jn (ja_s a))) (fun Q hQ => rn_X5_count_0_0 ⟨fun _ => ?_, fun e => absurd h0 e⟩) (fun Q hQ => rn_X6_count_101_0 ⟨fun _ => ?_, fun e => absurd h0 e⟩)
    · rw [hS.1]; exact hQ
    · rw [hR.1.1.1]; exact hQ _ (jfr_0 M 0)
  by_cases h1 : x = 1
  · refine pp_rd hA hC hR (v := jcr (ja_s a)) (fun Q hQ => rn_X5_count_0_0 ⟨fun e => absurd e h0, fun _ => ⟨fun _ => ?_, fun e => absurd h1 e⟩⟩) (fun Q hQ => rn_X6_count_101_0 ⟨fun e => absurd e h0, fun _ => ⟨fun _ => ?_, fun e => absurd h1 e⟩⟩)
    · rw [hS.2.2.2.2.2.1]; exact hQ
    · rw [hR.1.1.2.2.2.2.1]; exact hQ _ (jfr_0 M 0)
  by_cases h2 : x = 2
  · refine pp_rd hA hC hR (v := jle (ja_s a)) (fun Q hQ => rn_X5_count_0_0 ⟨fun e => absurd e h0, fun _ => ⟨fun e => absurd e h1, fun _ => ⟨fun _ => ?_, fun e => absurd h2 e⟩⟩⟩) (fun Q hQ => rn_X6_count_101_0 ⟨fun e => absurd e h0, fun _ => ⟨fun e => absurd e h1, fun _ => ⟨fun _ => ?_, fun e => absurd h2 e⟩⟩⟩)
    · rw [hS.2.2.2.2.2.2]; exact hQ
    · rw [hR.1.1.2.2.2.2.2.1]; exact hQ _ (jfr_0 M 0)
  by_cases h3 : x = 3
  · exact pp_rd hA hC hR (v := jm_dg (jod (ja_s a)) 4) (fun Q hQ => rn_X5_count_0_0 ⟨fun e => absurd e h0, fun _ => ⟨fun e => absurd e h1, fun _ => ⟨fun e => absurd e h2, fun _ => ⟨fun _ => cl_i (fun _ h => ct_orderAsDigits hS h) (rg_X5_count_0_83 hQ), fun e => absurd h3 e⟩⟩⟩⟩) (fun Q hQ => rn_X6_count_101_0 ⟨fun e => absurd e h0, fun _ => ⟨fun e => absurd e h1, fun _ => ⟨fun e => absurd e h2, fun _ => ⟨fun _ => cl_i (fun _ h => ct_ranksTold hR0 h) (rg_X6_count_101_85 (hQ _ (jfr_0 M 0))), fun e => absurd h3 e⟩⟩⟩⟩)
  by_cases h4 : x = 4
  · refine pp_rd hA hC hR (v := jc_all (ja_s a)) (fun Q hQ => rn_X5_count_0_0 ⟨fun e => absurd e h0, fun _ => ⟨fun e => absurd e h1, fun _ => ⟨fun e => absurd e h2, fun _ => ⟨fun e => absurd e h3, fun _ => ⟨fun _ => ?_, fun e => absurd h4 e⟩⟩⟩⟩⟩) (fun Q hQ => rn_X6_count_101_0 ⟨fun e => absurd e h0, fun _ => ⟨fun e => absurd e h1, fun _ => ⟨fun e => absurd e h2, fun _ => ⟨fun e => absurd e h3, fun _ => ⟨fun _ => cl_w (ct_all0 hR.1.1 hw (fun M2 f hL hR2 => ⟨_, rfl, rg_X6_count_101_90 (hQ M2 f)⟩)), fun e => absurd h4 e⟩⟩⟩⟩⟩)
    rw [k6]; exact hQ
  by_cases h5 : x = 5
  · refine pp_rd hA hC hR (v := nI (ja_pn a)) (fun Q hQ => rn_X5_count_0_0 ⟨fun e => absurd e h0, fun _ => ⟨fun e => absurd e h1, fun _ => ⟨fun e => absurd e h2, fun _ => ⟨fun e => absurd e h3, fun _ => ⟨fun e => absurd e h4, fun _ => ⟨fun _ => ?_, fun e => absurd h5 e⟩⟩⟩⟩⟩⟩) (fun Q hQ => rn_X6_count_101_0 ⟨fun e => absurd e h0, fun _ => ⟨fun e => absurd e h1, fun _ => ⟨fun e => absurd e h2, fun _ => ⟨fun e => absurd e h3, fun _ => ⟨fun e => absurd e h4, fun _ => ⟨fun _ => ?_, fun e => absurd h5 e⟩⟩⟩⟩⟩⟩)
    · rw [hC.1.2.1.1]; exact hQ
    · rw [hR.1.2.1.1]; exact hQ _ (jfr_0 M 0)
  by_cases h6 : x = 6
  · refine pp_rd hA hC hR (v := nI (ja_r a).length) (fun Q hQ => rn_X5_count_0_0 ⟨fun e => absurd e h0, fun _ => ⟨fun e => absurd e h1, fun _ => ⟨fun e => absurd e h2, fun _ => ⟨fun e => absurd e h3, fun _ => ⟨fun e => absurd e h4, fun _ => ⟨fun e => absurd e h5, fun _ => ⟨fun _ => ?_, fun e => absurd h6 e⟩⟩⟩⟩⟩⟩⟩) (fun Q hQ => rn_X6_count_101_0 ⟨fun e => absurd e h0, fun _ => ⟨fun e => absurd e h1, fun _ => ⟨fun e => absurd e h2, fun _ => ⟨fun e => absurd e h3, fun _ => ⟨fun e => absurd e h4, fun _ => ⟨fun e => absurd e h5, fun _ => ⟨fun _ => ?_, fun e => absurd h6 e⟩⟩⟩⟩⟩⟩⟩)
    · rw [hC.2.2.1]; exact hQ
    · rw [hR.2.2.1]; exact hQ _ (jfr_0 M 0)
  by_cases h7 : x = 7
  · refine pp_rd hA hC hR (v := nI (ja_tn a)) (fun Q hQ => rn_X5_count_0_0 ⟨fun e => absurd e h0, fun _ => ⟨fun e => absurd e h1, fun _ => ⟨fun e => absurd e h2, fun _ => ⟨fun e => absurd e h3, fun _ => ⟨fun e => absurd e h4, fun _ => ⟨fun e => absurd e h5, fun _ => ⟨fun e => absurd e h6, fun _ => ⟨fun _ => ?_, fun e => absurd h7 e⟩⟩⟩⟩⟩⟩⟩⟩) (fun Q hQ => rn_X6_count_101_0 ⟨fun e => absurd e h0, fun _ => ⟨fun e => absurd e h1, fun _ => ⟨fun e => absurd e h2, fun _ => ⟨fun e => absurd e h3, fun _ => ⟨fun e => absurd e h4, fun _ => ⟨fun e => absurd e h5, fun _ => ⟨fun e => absurd e h6, fun _ => ⟨fun _ => ?_, fun e => absurd h7 e⟩⟩⟩⟩⟩⟩⟩⟩)
    · rw [hC.2.1.1]; exact hQ
    · rw [hR.2.1.1]; exact hQ _ (jfr_0 M 0)
  by_cases h8 : x = 8
  · exact pp_rd hA hC hR (v := jm_sm (fun y => if jix (ja_s a) y = 100 then 0 else 1) 30) (fun Q hQ => rn_X5_count_0_0 ⟨fun e => absurd e h0, fun _ => ⟨fun e => absurd e h1, fun _ => ⟨fun e => absurd e h2, fun _ => ⟨fun e => absurd e h3, fun _ => ⟨fun e => absurd e h4, fun _ => ⟨fun e => absurd e h5, fun _ => ⟨fun e => absurd e h6, fun _ => ⟨fun e => absurd e h7, fun _ => ⟨fun _ => cl_i (fun _ h => ct_changedIndexes hS h) (rg_X5_count_0_120 hQ), fun e => absurd h8 e⟩⟩⟩⟩⟩⟩⟩⟩⟩) (fun Q hQ => rn_X6_count_101_0 ⟨fun e => absurd e h0, fun _ => ⟨fun e => absurd e h1, fun _ => ⟨fun e => absurd e h2, fun _ => ⟨fun e => absurd e h3, fun _ => ⟨fun e => absurd e h4, fun _ => ⟨fun e => absurd e h5, fun _ => ⟨fun e => absurd e h6, fun _ => ⟨fun e => absurd e h7, fun _ => ⟨fun _ => cl_i (fun _ h => ct_indexed hR0 h) (rg_X6_count_101_110 (hQ _ (jfr_0 M 0))), fun e => absurd h8 e⟩⟩⟩⟩⟩⟩⟩⟩⟩)
  · exact pp_rd hA hC hR (v := -1) (fun Q hQ => rn_X5_count_0_0 ⟨fun e => absurd e h0, fun _ => ⟨fun e => absurd e h1, fun _ => ⟨fun e => absurd e h2, fun _ => ⟨fun e => absurd e h3, fun _ => ⟨fun e => absurd e h4, fun _ => ⟨fun e => absurd e h5, fun _ => ⟨fun e => absurd e h6, fun _ => ⟨fun e => absurd e h7, fun _ => ⟨fun e => absurd e h8, fun _ => hQ⟩⟩⟩⟩⟩⟩⟩⟩⟩) (fun Q hQ => rn_X6_count_101_0 ⟨fun e => absurd e h0, fun _ => ⟨fun e => absurd e h1, fun _ => ⟨fun e => absurd e h2, fun _ => ⟨fun e => absurd e h3, fun _ => ⟨fun e => absurd e h4, fun _ => ⟨fun e => absurd e h5, fun _ => ⟨fun e => absurd e h6, fun _ => ⟨fun e => absurd e h7, fun _ => ⟨fun e => absurd e h8, fun _ => hQ _ (jfr_0 M 0)⟩⟩⟩⟩⟩⟩⟩⟩⟩)
end PP6
