/-! ===== the cases of the law's loop: plain pairs (written by wip/gen/gen_cases.py) ===== -/
theorem lw_s {v v' : Int32} {σ1 : am_S} (h : (v', σ1.1, σ1.2.2.2.2) = (v, am_SH, 1)) : v' = v ∧ ∃ M1 L1 G1, σ1 = jm_s M1 L1 G1 := by
  obtain ⟨s1, s2, s3, s4, s5⟩ := σ1
  have e1 : v' = v := congrArg (fun t => t.1) h
  have e2 : s1 = am_SH := congrArg (fun t => t.2.1) h
  have e3 : s5 = 1 := congrArg (fun t => t.2.2) h
  subst e2
  subst e3
  exact ⟨e1, s2, s3, s4, rfl⟩
section Cases
variable {X : Nat × (Nat → Int32)} {M : Nat → Nat → Int32} {L : Nat → Nat → Int64} {G : Nat → Nat → Option Nat} {Q : am_Q} {u : Nat × Nat} {a : jA} {i : Nat}
theorem lc_0 (hv : ∀ w, w < 7 → vp_in (nI i + nI w) X.1) (hA : jAw a) (hC : jC M L G a) (hR : jRR M L a) (hQ : ∀ σ', jI σ' → am_T X 230 1738 [some (.ref 1000), some (.ref 0), some (.ref 101), some (.ref 123), some (.int (nI i)), none, none, none] [] σ' u Q) : am_T X 230 236 [some (.ref 1000), some (.ref 0), some (.ref 101), some (.ref 123), some (.int (nI i)), none, none, none] [] (jm_s M L G) u Q := by
  obtain ⟨v, hc⟩ := pp_sign (X := X) hA hC hR (X.2 (nI i + 1).toNatClampNeg)
  refine rg_LW_236 ⟨hv 1 (by decide), _, hc, fun v' σ1 h => ?_⟩
  obtain ⟨e1, M1, L1, G1, e2⟩ := lw_s h.1
  have hr := h.2
  subst e1
  subst e2
  refine rg_LW_246 ⟨hv 1 (by decide), _, hr, fun v'' σ2 h2 => ?_⟩
  obtain ⟨e3, M2, L2, G2, a2, e4, h3⟩ := h2
  subst e3
  subst e4
  exact rg_LW_256 ⟨fun _ => hQ _ ⟨M2, L2, G2, a2, rfl, h3⟩, fun e => absurd rfl e⟩
theorem lc_1 (hv : ∀ w, w < 7 → vp_in (nI i + nI w) X.1) (hA : jAw a) (hC : jC M L G a) (hR : jRR M L a) (hQ : ∀ σ', jI σ' → am_T X 230 1738 [some (.ref 1000), some (.ref 0), some (.ref 101), some (.ref 123), some (.int (nI i)), none, none, none] [] σ' u Q) : am_T X 230 261 [some (.ref 1000), some (.ref 0), some (.ref 101), some (.ref 123), some (.int (nI i)), none, none, none] [] (jm_s M L G) u Q := by
  obtain ⟨v, hc⟩ := pp_end (X := X) hA hC hR (X.2 (nI i + 1).toNatClampNeg)
  refine rg_LW_261 ⟨hv 1 (by decide), _, hc, fun v' σ1 h => ?_⟩
  obtain ⟨e1, M1, L1, G1, e2⟩ := lw_s h.1
  have hr := h.2
  subst e1
  subst e2
  refine rg_LW_271 ⟨hv 1 (by decide), _, hr, fun v'' σ2 h2 => ?_⟩
  obtain ⟨e3, M2, L2, G2, a2, e4, h3⟩ := h2
  subst e3
  subst e4
  exact rg_LW_281 ⟨fun _ => hQ _ ⟨M2, L2, G2, a2, rfl, h3⟩, fun e => absurd rfl e⟩
theorem lc_2 (hv : ∀ w, w < 7 → vp_in (nI i + nI w) X.1) (hA : jAw a) (hC : jC M L G a) (hR : jRR M L a) (hQ : ∀ σ', jI σ' → am_T X 230 1738 [some (.ref 1000), some (.ref 0), some (.ref 101), some (.ref 123), some (.int (nI i)), none, none, none] [] σ' u Q) : am_T X 230 286 [some (.ref 1000), some (.ref 0), some (.ref 101), some (.ref 123), some (.int (nI i)), none, none, none] [] (jm_s M L G) u Q := by
  obtain ⟨v, hc⟩ := pp_spans (X := X) hA hC hR 
  refine rg_LW_286 ⟨_, hc, fun v' σ1 h => ?_⟩
  obtain ⟨e1, M1, L1, G1, e2⟩ := lw_s h.1
  have hr := h.2
  subst e1
  subst e2
  refine rg_LW_290 ⟨_, hr, fun v'' σ2 h2 => ?_⟩
  obtain ⟨e3, M2, L2, G2, a2, e4, h3⟩ := h2
  subst e3
  subst e4
  exact rg_LW_294 ⟨fun _ => hQ _ ⟨M2, L2, G2, a2, rfl, h3⟩, fun e => absurd rfl e⟩
theorem lc_3 (hv : ∀ w, w < 7 → vp_in (nI i + nI w) X.1) (hA : jAw a) (hC : jC M L G a) (hR : jRR M L a) (hQ : ∀ σ', jI σ' → am_T X 230 1738 [some (.ref 1000), some (.ref 0), some (.ref 101), some (.ref 123), some (.int (nI i)), none, none, none] [] σ' u Q) : am_T X 230 299 [some (.ref 1000), some (.ref 0), some (.ref 101), some (.ref 123), some (.int (nI i)), none, none, none] [] (jm_s M L G) u Q := by
  obtain ⟨v, hc⟩ := pp_laws (X := X) hA hC hR 
  refine rg_LW_299 ⟨_, hc, fun v' σ1 h => ?_⟩
  obtain ⟨e1, M1, L1, G1, e2⟩ := lw_s h.1
  have hr := h.2
  subst e1
  subst e2
  refine rg_LW_303 ⟨_, hr, fun v'' σ2 h2 => ?_⟩
  obtain ⟨e3, M2, L2, G2, a2, e4, h3⟩ := h2
  subst e3
  subst e4
  exact rg_LW_307 ⟨fun _ => hQ _ ⟨M2, L2, G2, a2, rfl, h3⟩, fun e => absurd rfl e⟩
theorem lc_4 (hv : ∀ w, w < 7 → vp_in (nI i + nI w) X.1) (hA : jAw a) (hC : jC M L G a) (hR : jRR M L a) (hQ : ∀ σ', jI σ' → am_T X 230 1738 [some (.ref 1000), some (.ref 0), some (.ref 101), some (.ref 123), some (.int (nI i)), none, none, none] [] σ' u Q) : am_T X 230 312 [some (.ref 1000), some (.ref 0), some (.ref 101), some (.ref 123), some (.int (nI i)), none, none, none] [] (jm_s M L G) u Q := by
  obtain ⟨v, hc⟩ := pp_ranks (X := X) hA hC hR 
  refine rg_LW_312 ⟨_, hc, fun v' σ1 h => ?_⟩
  obtain ⟨e1, M1, L1, G1, e2⟩ := lw_s h.1
  have hr := h.2
  subst e1
  subst e2
  refine rg_LW_316 ⟨_, hr, fun v'' σ2 h2 => ?_⟩
  obtain ⟨e3, M2, L2, G2, a2, e4, h3⟩ := h2
  subst e3
  subst e4
  exact rg_LW_320 ⟨fun _ => hQ _ ⟨M2, L2, G2, a2, rfl, h3⟩, fun e => absurd rfl e⟩
theorem lc_5 (hv : ∀ w, w < 7 → vp_in (nI i + nI w) X.1) (hA : jAw a) (hC : jC M L G a) (hR : jRR M L a) (hQ : ∀ σ', jI σ' → am_T X 230 1738 [some (.ref 1000), some (.ref 0), some (.ref 101), some (.ref 123), some (.int (nI i)), none, none, none] [] σ' u Q) : am_T X 230 325 [some (.ref 1000), some (.ref 0), some (.ref 101), some (.ref 123), some (.int (nI i)), none, none, none] [] (jm_s M L G) u Q := by
  obtain ⟨v, hc⟩ := pp_sheet (X := X) hA hC hR (X.2 (nI i + 1).toNatClampNeg) (X.2 (nI i + 2).toNatClampNeg) (X.2 (nI i + 3).toNatClampNeg) (X.2 (nI i + 4).toNatClampNeg)
  refine rg_LW_325 ⟨hv 1 (by decide), hv 2 (by decide), hv 3 (by decide), hv 4 (by decide), _, hc, fun v' σ1 h => ?_⟩
  obtain ⟨e1, M1, L1, G1, e2⟩ := lw_s h.1
  have hr := h.2
  subst e1
  subst e2
  refine rg_LW_353 ⟨hv 1 (by decide), hv 2 (by decide), hv 3 (by decide), hv 4 (by decide), _, hr, fun v'' σ2 h2 => ?_⟩
  obtain ⟨e3, M2, L2, G2, a2, e4, h3⟩ := h2
  subst e3
  subst e4
  exact rg_LW_381 ⟨fun _ => hQ _ ⟨M2, L2, G2, a2, rfl, h3⟩, fun e => absurd rfl e⟩
theorem lc_9 (hv : ∀ w, w < 7 → vp_in (nI i + nI w) X.1) (hA : jAw a) (hC : jC M L G a) (hR : jRR M L a) (hQ : ∀ σ', jI σ' → am_T X 230 1738 [some (.ref 1000), some (.ref 0), some (.ref 101), some (.ref 123), some (.int (nI i)), none, none, none] [] σ' u Q) : am_T X 230 590 [some (.ref 1000), some (.ref 0), some (.ref 101), some (.ref 123), some (.int (nI i)), none, none, none] [] (jm_s M L G) u Q := by
  obtain ⟨v, hc⟩ := pp_own (X := X) hA hC hR (X.2 (nI i + 1).toNatClampNeg)
  refine rg_LW_590 ⟨hv 1 (by decide), _, hc, fun v' σ1 h => ?_⟩
  obtain ⟨e1, M1, L1, G1, e2⟩ := lw_s h.1
  have hr := h.2
  subst e1
  subst e2
  refine rg_LW_600 ⟨hv 1 (by decide), _, hr, fun v'' σ2 h2 => ?_⟩
  obtain ⟨e3, M2, L2, G2, a2, e4, h3⟩ := h2
  subst e3
  subst e4
  exact rg_LW_610 ⟨fun _ => hQ _ ⟨M2, L2, G2, a2, rfl, h3⟩, fun e => absurd rfl e⟩
theorem lc_10 (hv : ∀ w, w < 7 → vp_in (nI i + nI w) X.1) (hA : jAw a) (hC : jC M L G a) (hR : jRR M L a) (hQ : ∀ σ', jI σ' → am_T X 230 1738 [some (.ref 1000), some (.ref 0), some (.ref 101), some (.ref 123), some (.int (nI i)), none, none, none] [] σ' u Q) : am_T X 230 615 [some (.ref 1000), some (.ref 0), some (.ref 101), some (.ref 123), some (.int (nI i)), none, none, none] [] (jm_s M L G) u Q := by
  obtain ⟨v, hc⟩ := pp_total (X := X) hA hC hR 
  refine rg_LW_615 ⟨_, hc, fun v' σ1 h => ?_⟩
  obtain ⟨e1, M1, L1, G1, e2⟩ := lw_s h.1
  have hr := h.2
  subst e1
  subst e2
  refine rg_LW_619 ⟨_, hr, fun v'' σ2 h2 => ?_⟩
  obtain ⟨e3, M2, L2, G2, a2, e4, h3⟩ := h2
  subst e3
  subst e4
  exact rg_LW_623 ⟨fun _ => hQ _ ⟨M2, L2, G2, a2, rfl, h3⟩, fun e => absurd rfl e⟩
theorem lc_11 (hv : ∀ w, w < 7 → vp_in (nI i + nI w) X.1) (hA : jAw a) (hC : jC M L G a) (hR : jRR M L a) (hQ : ∀ σ', jI σ' → am_T X 230 1738 [some (.ref 1000), some (.ref 0), some (.ref 101), some (.ref 123), some (.int (nI i)), none, none, none] [] σ' u Q) : am_T X 230 628 [some (.ref 1000), some (.ref 0), some (.ref 101), some (.ref 123), some (.int (nI i)), none, none, none] [] (jm_s M L G) u Q := by
  obtain ⟨v, hc⟩ := pp_year (X := X) hA hC hR (X.2 (nI i + 1).toNatClampNeg)
  refine rg_LW_628 ⟨hv 1 (by decide), _, hc, fun v' σ1 h => ?_⟩
  obtain ⟨e1, M1, L1, G1, e2⟩ := lw_s h.1
  have hr := h.2
  subst e1
  subst e2
  refine rg_LW_638 ⟨hv 1 (by decide), _, hr, fun v'' σ2 h2 => ?_⟩
  obtain ⟨e3, M2, L2, G2, a2, e4, h3⟩ := h2
  subst e3
  subst e4
  exact rg_LW_648 ⟨fun _ => hQ _ ⟨M2, L2, G2, a2, rfl, h3⟩, fun e => absurd rfl e⟩
theorem lc_12 (hv : ∀ w, w < 7 → vp_in (nI i + nI w) X.1) (hA : jAw a) (hC : jC M L G a) (hR : jRR M L a) (hQ : ∀ σ', jI σ' → am_T X 230 1738 [some (.ref 1000), some (.ref 0), some (.ref 101), some (.ref 123), some (.int (nI i)), none, none, none] [] σ' u Q) : am_T X 230 653 [some (.ref 1000), some (.ref 0), some (.ref 101), some (.ref 123), some (.int (nI i)), none, none, none] [] (jm_s M L G) u Q := by
  obtain ⟨v, hc⟩ := pp_gaps (X := X) hA hC hR 
  refine rg_LW_653 ⟨_, hc, fun v' σ1 h => ?_⟩
  obtain ⟨e1, M1, L1, G1, e2⟩ := lw_s h.1
  have hr := h.2
  subst e1
  subst e2
  refine rg_LW_657 ⟨_, hr, fun v'' σ2 h2 => ?_⟩
  obtain ⟨e3, M2, L2, G2, a2, e4, h3⟩ := h2
  subst e3
  subst e4
  exact rg_LW_661 ⟨fun _ => hQ _ ⟨M2, L2, G2, a2, rfl, h3⟩, fun e => absurd rfl e⟩
theorem lc_13 (hv : ∀ w, w < 7 → vp_in (nI i + nI w) X.1) (hA : jAw a) (hC : jC M L G a) (hR : jRR M L a) (hQ : ∀ σ', jI σ' → am_T X 230 1738 [some (.ref 1000), some (.ref 0), some (.ref 101), some (.ref 123), some (.int (nI i)), none, none, none] [] σ' u Q) : am_T X 230 666 [some (.ref 1000), some (.ref 0), some (.ref 101), some (.ref 123), some (.int (nI i)), none, none, none] [] (jm_s M L G) u Q := by
  obtain ⟨v, hc⟩ := pp_doubles (X := X) hA hC hR 
  refine rg_LW_666 ⟨_, hc, fun v' σ1 h => ?_⟩
  obtain ⟨e1, M1, L1, G1, e2⟩ := lw_s h.1
  have hr := h.2
  subst e1
  subst e2
  refine rg_LW_670 ⟨_, hr, fun v'' σ2 h2 => ?_⟩
  obtain ⟨e3, M2, L2, G2, a2, e4, h3⟩ := h2
  subst e3
  subst e4
  exact rg_LW_674 ⟨fun _ => hQ _ ⟨M2, L2, G2, a2, rfl, h3⟩, fun e => absurd rfl e⟩
theorem lc_14 (hv : ∀ w, w < 7 → vp_in (nI i + nI w) X.1) (hA : jAw a) (hC : jC M L G a) (hR : jRR M L a) (hQ : ∀ σ', jI σ' → am_T X 230 1738 [some (.ref 1000), some (.ref 0), some (.ref 101), some (.ref 123), some (.int (nI i)), none, none, none] [] σ' u Q) : am_T X 230 679 [some (.ref 1000), some (.ref 0), some (.ref 101), some (.ref 123), some (.int (nI i)), none, none, none] [] (jm_s M L G) u Q := by
  obtain ⟨v, hc⟩ := pp_pieces (X := X) hA hC hR 
  refine rg_LW_679 ⟨_, hc, fun v' σ1 h => ?_⟩
  obtain ⟨e1, M1, L1, G1, e2⟩ := lw_s h.1
  have hr := h.2
  subst e1
  subst e2
  refine rg_LW_683 ⟨_, hr, fun v'' σ2 h2 => ?_⟩
  obtain ⟨e3, M2, L2, G2, a2, e4, h3⟩ := h2
  subst e3
  subst e4
  exact rg_LW_687 ⟨fun _ => hQ _ ⟨M2, L2, G2, a2, rfl, h3⟩, fun e => absurd rfl e⟩
theorem lc_15 (hv : ∀ w, w < 7 → vp_in (nI i + nI w) X.1) (hA : jAw a) (hC : jC M L G a) (hR : jRR M L a) (hQ : ∀ σ', jI σ' → am_T X 230 1738 [some (.ref 1000), some (.ref 0), some (.ref 101), some (.ref 123), some (.int (nI i)), none, none, none] [] σ' u Q) : am_T X 230 692 [some (.ref 1000), some (.ref 0), some (.ref 101), some (.ref 123), some (.int (nI i)), none, none, none] [] (jm_s M L G) u Q := by
  obtain ⟨v, hc⟩ := pp_both (X := X) hA hC hR (X.2 (nI i + 1).toNatClampNeg) (X.2 (nI i + 2).toNatClampNeg)
  refine rg_LW_692 ⟨hv 1 (by decide), hv 2 (by decide), _, hc, fun v' σ1 h => ?_⟩
  obtain ⟨e1, M1, L1, G1, e2⟩ := lw_s h.1
  have hr := h.2
  subst e1
  subst e2
  refine rg_LW_708 ⟨hv 1 (by decide), hv 2 (by decide), _, hr, fun v'' σ2 h2 => ?_⟩
  obtain ⟨e3, M2, L2, G2, a2, e4, h3⟩ := h2
  subst e3
  subst e4
  exact rg_LW_724 ⟨fun _ => hQ _ ⟨M2, L2, G2, a2, rfl, h3⟩, fun e => absurd rfl e⟩
theorem lc_16 (hv : ∀ w, w < 7 → vp_in (nI i + nI w) X.1) (hA : jAw a) (hC : jC M L G a) (hR : jRR M L a) (hQ : ∀ σ', jI σ' → am_T X 230 1738 [some (.ref 1000), some (.ref 0), some (.ref 101), some (.ref 123), some (.int (nI i)), none, none, none] [] σ' u Q) : am_T X 230 729 [some (.ref 1000), some (.ref 0), some (.ref 101), some (.ref 123), some (.int (nI i)), none, none, none] [] (jm_s M L G) u Q := by
  obtain ⟨v, hc⟩ := pp_national (X := X) hA hC hR (X.2 (nI i + 1).toNatClampNeg)
  refine rg_LW_729 ⟨hv 1 (by decide), _, hc, fun v' σ1 h => ?_⟩
  obtain ⟨e1, M1, L1, G1, e2⟩ := lw_s h.1
  have hr := h.2
  subst e1
  subst e2
  refine rg_LW_739 ⟨hv 1 (by decide), _, hr, fun v'' σ2 h2 => ?_⟩
  obtain ⟨e3, M2, L2, G2, a2, e4, h3⟩ := h2
  subst e3
  subst e4
  exact rg_LW_749 ⟨fun _ => hQ _ ⟨M2, L2, G2, a2, rfl, h3⟩, fun e => absurd rfl e⟩
theorem lc_17 (hv : ∀ w, w < 7 → vp_in (nI i + nI w) X.1) (hA : jAw a) (hC : jC M L G a) (hR : jRR M L a) (hQ : ∀ σ', jI σ' → am_T X 230 1738 [some (.ref 1000), some (.ref 0), some (.ref 101), some (.ref 123), some (.int (nI i)), none, none, none] [] σ' u Q) : am_T X 230 754 [some (.ref 1000), some (.ref 0), some (.ref 101), some (.ref 123), some (.int (nI i)), none, none, none] [] (jm_s M L G) u Q := by
  obtain ⟨v, hc⟩ := pp_theoretical (X := X) hA hC hR (X.2 (nI i + 1).toNatClampNeg)
  refine rg_LW_754 ⟨hv 1 (by decide), _, hc, fun v' σ1 h => ?_⟩
  obtain ⟨e1, M1, L1, G1, e2⟩ := lw_s h.1
  have hr := h.2
  subst e1
  subst e2
  refine rg_LW_764 ⟨hv 1 (by decide), _, hr, fun v'' σ2 h2 => ?_⟩
  obtain ⟨e3, M2, L2, G2, a2, e4, h3⟩ := h2
  subst e3
  subst e4
  exact rg_LW_774 ⟨fun _ => hQ _ ⟨M2, L2, G2, a2, rfl, h3⟩, fun e => absurd rfl e⟩
theorem lc_18 (hv : ∀ w, w < 7 → vp_in (nI i + nI w) X.1) (hA : jAw a) (hC : jC M L G a) (hR : jRR M L a) (hQ : ∀ σ', jI σ' → am_T X 230 1738 [some (.ref 1000), some (.ref 0), some (.ref 101), some (.ref 123), some (.int (nI i)), none, none, none] [] σ' u Q) : am_T X 230 779 [some (.ref 1000), some (.ref 0), some (.ref 101), some (.ref 123), some (.int (nI i)), none, none, none] [] (jm_s M L G) u Q := by
  obtain ⟨v, hc⟩ := pp_paid (X := X) hA hC hR (X.2 (nI i + 1).toNatClampNeg)
  refine rg_LW_779 ⟨hv 1 (by decide), _, hc, fun v' σ1 h => ?_⟩
  obtain ⟨e1, M1, L1, G1, e2⟩ := lw_s h.1
  have hr := h.2
  subst e1
  subst e2
  refine rg_LW_789 ⟨hv 1 (by decide), _, hr, fun v'' σ2 h2 => ?_⟩
  obtain ⟨e3, M2, L2, G2, a2, e4, h3⟩ := h2
  subst e3
  subst e4
  exact rg_LW_799 ⟨fun _ => hQ _ ⟨M2, L2, G2, a2, rfl, h3⟩, fun e => absurd rfl e⟩
theorem lc_19 (hv : ∀ w, w < 7 → vp_in (nI i + nI w) X.1) (hA : jAw a) (hC : jC M L G a) (hR : jRR M L a) (hQ : ∀ σ', jI σ' → am_T X 230 1738 [some (.ref 1000), some (.ref 0), some (.ref 101), some (.ref 123), some (.int (nI i)), none, none, none] [] σ' u Q) : am_T X 230 804 [some (.ref 1000), some (.ref 0), some (.ref 101), some (.ref 123), some (.int (nI i)), none, none, none] [] (jm_s M L G) u Q := by
  obtain ⟨v, hc⟩ := pp_at (X := X) hA hC hR (X.2 (nI i + 1).toNatClampNeg)
  refine rg_LW_804 ⟨hv 1 (by decide), _, hc, fun v' σ1 h => ?_⟩
  obtain ⟨e1, M1, L1, G1, e2⟩ := lw_s h.1
  have hr := h.2
  subst e1
  subst e2
  refine rg_LW_814 ⟨hv 1 (by decide), _, hr, fun v'' σ2 h2 => ?_⟩
  obtain ⟨e3, M2, L2, G2, a2, e4, h3⟩ := h2
  subst e3
  subst e4
  exact rg_LW_824 ⟨fun _ => hQ _ ⟨M2, L2, G2, a2, rfl, h3⟩, fun e => absurd rfl e⟩
theorem lc_20 (hv : ∀ w, w < 7 → vp_in (nI i + nI w) X.1) (hA : jAw a) (hC : jC M L G a) (hR : jRR M L a) (hQ : ∀ σ', jI σ' → am_T X 230 1738 [some (.ref 1000), some (.ref 0), some (.ref 101), some (.ref 123), some (.int (nI i)), none, none, none] [] σ' u Q) : am_T X 230 829 [some (.ref 1000), some (.ref 0), some (.ref 101), some (.ref 123), some (.int (nI i)), none, none, none] [] (jm_s M L G) u Q := by
  obtain ⟨v, hc⟩ := pp_most (X := X) hA hC hR 
  refine rg_LW_829 ⟨_, hc, fun v' σ1 h => ?_⟩
  obtain ⟨e1, M1, L1, G1, e2⟩ := lw_s h.1
  have hr := h.2
  subst e1
  subst e2
  refine rg_LW_833 ⟨_, hr, fun v'' σ2 h2 => ?_⟩
  obtain ⟨e3, M2, L2, G2, a2, e4, h3⟩ := h2
  subst e3
  subst e4
  exact rg_LW_837 ⟨fun _ => hQ _ ⟨M2, L2, G2, a2, rfl, h3⟩, fun e => absurd rfl e⟩
theorem lc_21 (hv : ∀ w, w < 7 → vp_in (nI i + nI w) X.1) (hA : jAw a) (hC : jC M L G a) (hR : jRR M L a) (hQ : ∀ σ', jI σ' → am_T X 230 1738 [some (.ref 1000), some (.ref 0), some (.ref 101), some (.ref 123), some (.int (nI i)), none, none, none] [] σ' u Q) : am_T X 230 842 [some (.ref 1000), some (.ref 0), some (.ref 101), some (.ref 123), some (.int (nI i)), none, none, none] [] (jm_s M L G) u Q := by
  obtain ⟨v, hc⟩ := pp_late (X := X) hA hC hR (X.2 (nI i + 1).toNatClampNeg) (X.2 (nI i + 2).toNatClampNeg) (X.2 (nI i + 3).toNatClampNeg) (X.2 (nI i + 4).toNatClampNeg) (X.2 (nI i + 5).toNatClampNeg)
  refine rg_LW_842 ⟨hv 1 (by decide), hv 2 (by decide), hv 3 (by decide), hv 4 (by decide), hv 5 (by decide), _, hc, fun v' σ1 h => ?_⟩
  obtain ⟨e1, M1, L1, G1, e2⟩ := lw_s h.1
  have hr := h.2
  subst e1
  subst e2
  refine rg_LW_876 ⟨hv 1 (by decide), hv 2 (by decide), hv 3 (by decide), hv 4 (by decide), hv 5 (by decide), _, hr, fun v'' σ2 h2 => ?_⟩
  obtain ⟨e3, M2, L2, G2, a2, e4, h3⟩ := h2
  subst e3
  subst e4
  exact rg_LW_910 ⟨fun _ => hQ _ ⟨M2, L2, G2, a2, rfl, h3⟩, fun e => absurd rfl e⟩
theorem lc_22 (hv : ∀ w, w < 7 → vp_in (nI i + nI w) X.1) (hA : jAw a) (hC : jC M L G a) (hR : jRR M L a) (hQ : ∀ σ', jI σ' → am_T X 230 1738 [some (.ref 1000), some (.ref 0), some (.ref 101), some (.ref 123), some (.int (nI i)), none, none, none] [] σ' u Q) : am_T X 230 915 [some (.ref 1000), some (.ref 0), some (.ref 101), some (.ref 123), some (.int (nI i)), none, none, none] [] (jm_s M L G) u Q := by
  obtain ⟨v, hc⟩ := pp_without (X := X) hA hC hR (X.2 (nI i + 1).toNatClampNeg)
  refine rg_LW_915 ⟨hv 1 (by decide), _, hc, fun v' σ1 h => ?_⟩
  obtain ⟨e1, M1, L1, G1, e2⟩ := lw_s h.1
  have hr := h.2
  subst e1
  subst e2
  refine rg_LW_925 ⟨hv 1 (by decide), _, hr, fun v'' σ2 h2 => ?_⟩
  obtain ⟨e3, M2, L2, G2, a2, e4, h3⟩ := h2
  subst e3
  subst e4
  exact rg_LW_935 ⟨fun _ => hQ _ ⟨M2, L2, G2, a2, rfl, h3⟩, fun e => absurd rfl e⟩
theorem lc_23 (hv : ∀ w, w < 7 → vp_in (nI i + nI w) X.1) (hA : jAw a) (hC : jC M L G a) (hR : jRR M L a) (hQ : ∀ σ', jI σ' → am_T X 230 1738 [some (.ref 1000), some (.ref 0), some (.ref 101), some (.ref 123), some (.int (nI i)), none, none, none] [] σ' u Q) : am_T X 230 940 [some (.ref 1000), some (.ref 0), some (.ref 101), some (.ref 123), some (.int (nI i)), none, none, none] [] (jm_s M L G) u Q := by
  obtain ⟨v, hc⟩ := pp_lawful (X := X) hA hC hR (X.2 (nI i + 1).toNatClampNeg) (X.2 (nI i + 2).toNatClampNeg) (X.2 (nI i + 3).toNatClampNeg)
  refine rg_LW_940 ⟨hv 1 (by decide), hv 2 (by decide), hv 3 (by decide), _, hc, fun v' σ1 h => ?_⟩
  obtain ⟨e1, M1, L1, G1, e2⟩ := lw_s h.1
  have hr := h.2
  subst e1
  subst e2
  refine rg_LW_962 ⟨hv 1 (by decide), hv 2 (by decide), hv 3 (by decide), _, hr, fun v'' σ2 h2 => ?_⟩
  obtain ⟨e3, M2, L2, G2, a2, e4, h3⟩ := h2
  subst e3
  subst e4
  exact rg_LW_984 ⟨fun _ => hQ _ ⟨M2, L2, G2, a2, rfl, h3⟩, fun e => absurd rfl e⟩
theorem lc_24 (hv : ∀ w, w < 7 → vp_in (nI i + nI w) X.1) (hA : jAw a) (hC : jC M L G a) (hR : jRR M L a) (hQ : ∀ σ', jI σ' → am_T X 230 1738 [some (.ref 1000), some (.ref 0), some (.ref 101), some (.ref 123), some (.int (nI i)), none, none, none] [] σ' u Q) : am_T X 230 989 [some (.ref 1000), some (.ref 0), some (.ref 101), some (.ref 123), some (.int (nI i)), none, none, none] [] (jm_s M L G) u Q := by
  obtain ⟨v, hc⟩ := pp_settled (X := X) hA hC hR (X.2 (nI i + 1).toNatClampNeg) (X.2 (nI i + 2).toNatClampNeg)
  refine rg_LW_989 ⟨hv 1 (by decide), hv 2 (by decide), _, hc, fun v' σ1 h => ?_⟩
  obtain ⟨e1, M1, L1, G1, e2⟩ := lw_s h.1
  have hr := h.2
  subst e1
  subst e2
  refine rg_LW_1005 ⟨hv 1 (by decide), hv 2 (by decide), _, hr, fun v'' σ2 h2 => ?_⟩
  obtain ⟨e3, M2, L2, G2, a2, e4, h3⟩ := h2
  subst e3
  subst e4
  exact rg_LW_1021 ⟨fun _ => hQ _ ⟨M2, L2, G2, a2, rfl, h3⟩, fun e => absurd rfl e⟩
theorem lc_25 (hv : ∀ w, w < 7 → vp_in (nI i + nI w) X.1) (hA : jAw a) (hC : jC M L G a) (hR : jRR M L a) (hQ : ∀ σ', jI σ' → am_T X 230 1738 [some (.ref 1000), some (.ref 0), some (.ref 101), some (.ref 123), some (.int (nI i)), none, none, none] [] σ' u Q) : am_T X 230 1026 [some (.ref 1000), some (.ref 0), some (.ref 101), some (.ref 123), some (.int (nI i)), none, none, none] [] (jm_s M L G) u Q := by
  obtain ⟨v, hc⟩ := pp_instead (X := X) hA hC hR (X.2 (nI i + 1).toNatClampNeg) (X.2 (nI i + 2).toNatClampNeg) (X.2 (nI i + 3).toNatClampNeg) (X.2 (nI i + 4).toNatClampNeg) (X.2 (nI i + 5).toNatClampNeg) (X.2 (nI i + 6).toNatClampNeg)
  refine rg_LW_1026 ⟨hv 1 (by decide), hv 2 (by decide), hv 3 (by decide), hv 4 (by decide), hv 5 (by decide), hv 6 (by decide), _, hc, fun v' σ1 h => ?_⟩
  obtain ⟨e1, M1, L1, G1, e2⟩ := lw_s h.1
  have hr := h.2
  subst e1
  subst e2
  refine rg_LW_1067 ⟨hv 1 (by decide), hv 2 (by decide), hv 3 (by decide), hv 4 (by decide), hv 5 (by decide), hv 6 (by decide), _, hr, fun v'' σ2 h2 => ?_⟩
  obtain ⟨e3, M2, L2, G2, a2, e4, h3⟩ := h2
  subst e3
  subst e4
  exact rg_LW_1108 ⟨fun _ => hQ _ ⟨M2, L2, G2, a2, rfl, h3⟩, fun e => absurd rfl e⟩
theorem lc_26 (hv : ∀ w, w < 7 → vp_in (nI i + nI w) X.1) (hA : jAw a) (hC : jC M L G a) (hR : jRR M L a) (hQ : ∀ σ', jI σ' → am_T X 230 1738 [some (.ref 1000), some (.ref 0), some (.ref 101), some (.ref 123), some (.int (nI i)), none, none, none] [] σ' u Q) : am_T X 230 1113 [some (.ref 1000), some (.ref 0), some (.ref 101), some (.ref 123), some (.int (nI i)), none, none, none] [] (jm_s M L G) u Q := by
  obtain ⟨v, hc⟩ := pp_worth (X := X) hA hC hR 
  refine rg_LW_1113 ⟨_, hc, fun v' σ1 h => ?_⟩
  obtain ⟨e1, M1, L1, G1, e2⟩ := lw_s h.1
  have hr := h.2
  subst e1
  subst e2
  refine rg_LW_1117 ⟨_, hr, fun v'' σ2 h2 => ?_⟩
  obtain ⟨e3, M2, L2, G2, a2, e4, h3⟩ := h2
  subst e3
  subst e4
  exact rg_LW_1121 ⟨fun _ => hQ _ ⟨M2, L2, G2, a2, rfl, h3⟩, fun e => absurd rfl e⟩
theorem lc_27 (hv : ∀ w, w < 7 → vp_in (nI i + nI w) X.1) (hA : jAw a) (hC : jC M L G a) (hR : jRR M L a) (hQ : ∀ σ', jI σ' → am_T X 230 1738 [some (.ref 1000), some (.ref 0), some (.ref 101), some (.ref 123), some (.int (nI i)), none, none, none] [] σ' u Q) : am_T X 230 1126 [some (.ref 1000), some (.ref 0), some (.ref 101), some (.ref 123), some (.int (nI i)), none, none, none] [] (jm_s M L G) u Q := by
  obtain ⟨v, hc⟩ := pp_best (X := X) hA hC hR 
  refine rg_LW_1126 ⟨_, hc, fun v' σ1 h => ?_⟩
  obtain ⟨e1, M1, L1, G1, e2⟩ := lw_s h.1
  have hr := h.2
  subst e1
  subst e2
  refine rg_LW_1130 ⟨_, hr, fun v'' σ2 h2 => ?_⟩
  obtain ⟨e3, M2, L2, G2, a2, e4, h3⟩ := h2
  subst e3
  subst e4
  exact rg_LW_1134 ⟨fun _ => hQ _ ⟨M2, L2, G2, a2, rfl, h3⟩, fun e => absurd rfl e⟩
theorem lc_28 (hv : ∀ w, w < 7 → vp_in (nI i + nI w) X.1) (hA : jAw a) (hC : jC M L G a) (hR : jRR M L a) (hQ : ∀ σ', jI σ' → am_T X 230 1738 [some (.ref 1000), some (.ref 0), some (.ref 101), some (.ref 123), some (.int (nI i)), none, none, none] [] σ' u Q) : am_T X 230 1139 [some (.ref 1000), some (.ref 0), some (.ref 101), some (.ref 123), some (.int (nI i)), none, none, none] [] (jm_s M L G) u Q := by
  obtain ⟨v, hc⟩ := pp_buys (X := X) hA hC hR (X.2 (nI i + 1).toNatClampNeg) (X.2 (nI i + 2).toNatClampNeg) (X.2 (nI i + 3).toNatClampNeg)
  refine rg_LW_1139 ⟨hv 1 (by decide), hv 2 (by decide), hv 3 (by decide), _, hc, fun v' σ1 h => ?_⟩
  obtain ⟨e1, M1, L1, G1, e2⟩ := lw_s h.1
  have hr := h.2
  subst e1
  subst e2
  refine rg_LW_1161 ⟨hv 1 (by decide), hv 2 (by decide), hv 3 (by decide), _, hr, fun v'' σ2 h2 => ?_⟩
  obtain ⟨e3, M2, L2, G2, a2, e4, h3⟩ := h2
  subst e3
  subst e4
  exact rg_LW_1183 ⟨fun _ => hQ _ ⟨M2, L2, G2, a2, rfl, h3⟩, fun e => absurd rfl e⟩
theorem lc_29 (hv : ∀ w, w < 7 → vp_in (nI i + nI w) X.1) (hA : jAw a) (hC : jC M L G a) (hR : jRR M L a) (hQ : ∀ σ', jI σ' → am_T X 230 1738 [some (.ref 1000), some (.ref 0), some (.ref 101), some (.ref 123), some (.int (nI i)), none, none, none] [] σ' u Q) : am_T X 230 1188 [some (.ref 1000), some (.ref 0), some (.ref 101), some (.ref 123), some (.int (nI i)), none, none, none] [] (jm_s M L G) u Q := by
  obtain ⟨v, hc⟩ := pp_missing (X := X) hA hC hR (X.2 (nI i + 1).toNatClampNeg)
  refine rg_LW_1188 ⟨hv 1 (by decide), _, hc, fun v' σ1 h => ?_⟩
  obtain ⟨e1, M1, L1, G1, e2⟩ := lw_s h.1
  have hr := h.2
  subst e1
  subst e2
  refine rg_LW_1198 ⟨hv 1 (by decide), _, hr, fun v'' σ2 h2 => ?_⟩
  obtain ⟨e3, M2, L2, G2, a2, e4, h3⟩ := h2
  subst e3
  subst e4
  exact rg_LW_1208 ⟨fun _ => hQ _ ⟨M2, L2, G2, a2, rfl, h3⟩, fun e => absurd rfl e⟩
theorem lc_30 (hv : ∀ w, w < 7 → vp_in (nI i + nI w) X.1) (hA : jAw a) (hC : jC M L G a) (hR : jRR M L a) (hQ : ∀ σ', jI σ' → am_T X 230 1738 [some (.ref 1000), some (.ref 0), some (.ref 101), some (.ref 123), some (.int (nI i)), none, none, none] [] σ' u Q) : am_T X 230 1213 [some (.ref 1000), some (.ref 0), some (.ref 101), some (.ref 123), some (.int (nI i)), none, none, none] [] (jm_s M L G) u Q := by
  obtain ⟨v, hc⟩ := pp_earns (X := X) hA hC hR (X.2 (nI i + 1).toNatClampNeg)
  refine rg_LW_1213 ⟨hv 1 (by decide), _, hc, fun v' σ1 h => ?_⟩
  obtain ⟨e1, M1, L1, G1, e2⟩ := lw_s h.1
  have hr := h.2
  subst e1
  subst e2
  refine rg_LW_1223 ⟨hv 1 (by decide), _, hr, fun v'' σ2 h2 => ?_⟩
  obtain ⟨e3, M2, L2, G2, a2, e4, h3⟩ := h2
  subst e3
  subst e4
  exact rg_LW_1233 ⟨fun _ => hQ _ ⟨M2, L2, G2, a2, rfl, h3⟩, fun e => absurd rfl e⟩
theorem lc_31 (hv : ∀ w, w < 7 → vp_in (nI i + nI w) X.1) (hA : jAw a) (hC : jC M L G a) (hR : jRR M L a) (hQ : ∀ σ', jI σ' → am_T X 230 1738 [some (.ref 1000), some (.ref 0), some (.ref 101), some (.ref 123), some (.int (nI i)), none, none, none] [] σ' u Q) : am_T X 230 1238 [some (.ref 1000), some (.ref 0), some (.ref 101), some (.ref 123), some (.int (nI i)), none, none, none] [] (jm_s M L G) u Q := by
  obtain ⟨v, hc⟩ := pp_part (X := X) hA hC hR (X.2 (nI i + 1).toNatClampNeg) (X.2 (nI i + 2).toNatClampNeg)
  refine rg_LW_1238 ⟨hv 1 (by decide), hv 2 (by decide), _, hc, fun v' σ1 h => ?_⟩
  obtain ⟨e1, M1, L1, G1, e2⟩ := lw_s h.1
  have hr := h.2
  subst e1
  subst e2
  refine rg_LW_1254 ⟨hv 1 (by decide), hv 2 (by decide), _, hr, fun v'' σ2 h2 => ?_⟩
  obtain ⟨e3, M2, L2, G2, a2, e4, h3⟩ := h2
  subst e3
  subst e4
  exact rg_LW_1270 ⟨fun _ => hQ _ ⟨M2, L2, G2, a2, rfl, h3⟩, fun e => absurd rfl e⟩
theorem lc_32 (hv : ∀ w, w < 7 → vp_in (nI i + nI w) X.1) (hA : jAw a) (hC : jC M L G a) (hR : jRR M L a) (hQ : ∀ σ', jI σ' → am_T X 230 1738 [some (.ref 1000), some (.ref 0), some (.ref 101), some (.ref 123), some (.int (nI i)), none, none, none] [] σ' u Q) : am_T X 230 1275 [some (.ref 1000), some (.ref 0), some (.ref 101), some (.ref 123), some (.int (nI i)), none, none, none] [] (jm_s M L G) u Q := by
  obtain ⟨v, hc⟩ := pp_comes (X := X) hA hC hR (X.2 (nI i + 1).toNatClampNeg) (X.2 (nI i + 2).toNatClampNeg) (X.2 (nI i + 3).toNatClampNeg) (X.2 (nI i + 4).toNatClampNeg) (X.2 (nI i + 5).toNatClampNeg)
  refine rg_LW_1275 ⟨hv 1 (by decide), hv 2 (by decide), hv 3 (by decide), hv 4 (by decide), hv 5 (by decide), _, hc, fun v' σ1 h => ?_⟩
  obtain ⟨e1, M1, L1, G1, e2⟩ := lw_s h.1
  have hr := h.2
  subst e1
  subst e2
  refine rg_LW_1309 ⟨hv 1 (by decide), hv 2 (by decide), hv 3 (by decide), hv 4 (by decide), hv 5 (by decide), _, hr, fun v'' σ2 h2 => ?_⟩
  obtain ⟨e3, M2, L2, G2, a2, e4, h3⟩ := h2
  subst e3
  subst e4
  exact rg_LW_1343 ⟨fun _ => hQ _ ⟨M2, L2, G2, a2, rfl, h3⟩, fun e => absurd rfl e⟩
theorem lc_33 (hv : ∀ w, w < 7 → vp_in (nI i + nI w) X.1) (hA : jAw a) (hC : jC M L G a) (hR : jRR M L a) (hQ : ∀ σ', jI σ' → am_T X 230 1738 [some (.ref 1000), some (.ref 0), some (.ref 101), some (.ref 123), some (.int (nI i)), none, none, none] [] σ' u Q) : am_T X 230 1348 [some (.ref 1000), some (.ref 0), some (.ref 101), some (.ref 123), some (.int (nI i)), none, none, none] [] (jm_s M L G) u Q := by
  obtain ⟨v, hc⟩ := pp_goes (X := X) hA hC hR (X.2 (nI i + 1).toNatClampNeg)
  refine rg_LW_1348 ⟨hv 1 (by decide), _, hc, fun v' σ1 h => ?_⟩
  obtain ⟨e1, M1, L1, G1, e2⟩ := lw_s h.1
  have hr := h.2
  subst e1
  subst e2
  refine rg_LW_1358 ⟨hv 1 (by decide), _, hr, fun v'' σ2 h2 => ?_⟩
  obtain ⟨e3, M2, L2, G2, a2, e4, h3⟩ := h2
  subst e3
  subst e4
  exact rg_LW_1368 ⟨fun _ => hQ _ ⟨M2, L2, G2, a2, rfl, h3⟩, fun e => absurd rfl e⟩
theorem lc_34 (hv : ∀ w, w < 7 → vp_in (nI i + nI w) X.1) (hA : jAw a) (hC : jC M L G a) (hR : jRR M L a) (hQ : ∀ σ', jI σ' → am_T X 230 1738 [some (.ref 1000), some (.ref 0), some (.ref 101), some (.ref 123), some (.int (nI i)), none, none, none] [] σ' u Q) : am_T X 230 1373 [some (.ref 1000), some (.ref 0), some (.ref 101), some (.ref 123), some (.int (nI i)), none, none, none] [] (jm_s M L G) u Q := by
  obtain ⟨v, hc⟩ := pp_lasts (X := X) hA hC hR (X.2 (nI i + 1).toNatClampNeg) (X.2 (nI i + 2).toNatClampNeg) (X.2 (nI i + 3).toNatClampNeg)
  refine rg_LW_1373 ⟨hv 1 (by decide), hv 2 (by decide), hv 3 (by decide), _, hc, fun v' σ1 h => ?_⟩
  obtain ⟨e1, M1, L1, G1, e2⟩ := lw_s h.1
  have hr := h.2
  subst e1
  subst e2
  refine rg_LW_1395 ⟨hv 1 (by decide), hv 2 (by decide), hv 3 (by decide), _, hr, fun v'' σ2 h2 => ?_⟩
  obtain ⟨e3, M2, L2, G2, a2, e4, h3⟩ := h2
  subst e3
  subst e4
  exact rg_LW_1417 ⟨fun _ => hQ _ ⟨M2, L2, G2, a2, rfl, h3⟩, fun e => absurd rfl e⟩
theorem lc_35 (hv : ∀ w, w < 7 → vp_in (nI i + nI w) X.1) (hA : jAw a) (hC : jC M L G a) (hR : jRR M L a) (hQ : ∀ σ', jI σ' → am_T X 230 1738 [some (.ref 1000), some (.ref 0), some (.ref 101), some (.ref 123), some (.int (nI i)), none, none, none] [] σ' u Q) : am_T X 230 1422 [some (.ref 1000), some (.ref 0), some (.ref 101), some (.ref 123), some (.int (nI i)), none, none, none] [] (jm_s M L G) u Q := by
  obtain ⟨v, hc⟩ := pp_becomes (X := X) hA hC hR (X.2 (nI i + 1).toNatClampNeg) (X.2 (nI i + 2).toNatClampNeg) (X.2 (nI i + 3).toNatClampNeg)
  refine rg_LW_1422 ⟨hv 1 (by decide), hv 2 (by decide), hv 3 (by decide), _, hc, fun v' σ1 h => ?_⟩
  obtain ⟨e1, M1, L1, G1, e2⟩ := lw_s h.1
  have hr := h.2
  subst e1
  subst e2
  refine rg_LW_1444 ⟨hv 1 (by decide), hv 2 (by decide), hv 3 (by decide), _, hr, fun v'' σ2 h2 => ?_⟩
  obtain ⟨e3, M2, L2, G2, a2, e4, h3⟩ := h2
  subst e3
  subst e4
  exact rg_LW_1466 ⟨fun _ => hQ _ ⟨M2, L2, G2, a2, rfl, h3⟩, fun e => absurd rfl e⟩
theorem lc_36 (hv : ∀ w, w < 7 → vp_in (nI i + nI w) X.1) (hA : jAw a) (hC : jC M L G a) (hR : jRR M L a) (hQ : ∀ σ', jI σ' → am_T X 230 1738 [some (.ref 1000), some (.ref 0), some (.ref 101), some (.ref 123), some (.int (nI i)), none, none, none] [] σ' u Q) : am_T X 230 1471 [some (.ref 1000), some (.ref 0), some (.ref 101), some (.ref 123), some (.int (nI i)), none, none, none] [] (jm_s M L G) u Q := by
  obtain ⟨v, hc⟩ := pp_indexes (X := X) hA hC hR (X.2 (nI i + 1).toNatClampNeg) (X.2 (nI i + 2).toNatClampNeg)
  refine rg_LW_1471 ⟨hv 1 (by decide), hv 2 (by decide), _, hc, fun v' σ1 h => ?_⟩
  obtain ⟨e1, M1, L1, G1, e2⟩ := lw_s h.1
  have hr := h.2
  subst e1
  subst e2
  refine rg_LW_1487 ⟨hv 1 (by decide), hv 2 (by decide), _, hr, fun v'' σ2 h2 => ?_⟩
  obtain ⟨e3, M2, L2, G2, a2, e4, h3⟩ := h2
  subst e3
  subst e4
  exact rg_LW_1503 ⟨fun _ => hQ _ ⟨M2, L2, G2, a2, rfl, h3⟩, fun e => absurd rfl e⟩
theorem lc_37 (hv : ∀ w, w < 7 → vp_in (nI i + nI w) X.1) (hA : jAw a) (hC : jC M L G a) (hR : jRR M L a) (hQ : ∀ σ', jI σ' → am_T X 230 1738 [some (.ref 1000), some (.ref 0), some (.ref 101), some (.ref 123), some (.int (nI i)), none, none, none] [] σ' u Q) : am_T X 230 1508 [some (.ref 1000), some (.ref 0), some (.ref 101), some (.ref 123), some (.int (nI i)), none, none, none] [] (jm_s M L G) u Q := by
  obtain ⟨v, hc⟩ := pp_sets (X := X) hA hC hR (X.2 (nI i + 1).toNatClampNeg) (X.2 (nI i + 2).toNatClampNeg)
  refine rg_LW_1508 ⟨hv 1 (by decide), hv 2 (by decide), _, hc, fun v' σ1 h => ?_⟩
  obtain ⟨e1, M1, L1, G1, e2⟩ := lw_s h.1
  have hr := h.2
  subst e1
  subst e2
  refine rg_LW_1524 ⟨hv 1 (by decide), hv 2 (by decide), _, hr, fun v'' σ2 h2 => ?_⟩
  obtain ⟨e3, M2, L2, G2, a2, e4, h3⟩ := h2
  subst e3
  subst e4
  exact rg_LW_1540 ⟨fun _ => hQ _ ⟨M2, L2, G2, a2, rfl, h3⟩, fun e => absurd rfl e⟩
theorem lc_38 (hv : ∀ w, w < 7 → vp_in (nI i + nI w) X.1) (hA : jAw a) (hC : jC M L G a) (hR : jRR M L a) (hQ : ∀ σ', jI σ' → am_T X 230 1738 [some (.ref 1000), some (.ref 0), some (.ref 101), some (.ref 123), some (.int (nI i)), none, none, none] [] σ' u Q) : am_T X 230 1545 [some (.ref 1000), some (.ref 0), some (.ref 101), some (.ref 123), some (.int (nI i)), none, none, none] [] (jm_s M L G) u Q := by
  obtain ⟨v, hc⟩ := pp_day (X := X) hA hC hR 
  refine rg_LW_1545 ⟨_, hc, fun v' σ1 h => ?_⟩
  obtain ⟨e1, M1, L1, G1, e2⟩ := lw_s h.1
  have hr := h.2
  subst e1
  subst e2
  refine rg_LW_1549 ⟨_, hr, fun v'' σ2 h2 => ?_⟩
  obtain ⟨e3, M2, L2, G2, a2, e4, h3⟩ := h2
  subst e3
  subst e4
  exact rg_LW_1553 ⟨fun _ => hQ _ ⟨M2, L2, G2, a2, rfl, h3⟩, fun e => absurd rfl e⟩
theorem lc_39 (hv : ∀ w, w < 7 → vp_in (nI i + nI w) X.1) (hA : jAw a) (hC : jC M L G a) (hR : jRR M L a) (hQ : ∀ σ', jI σ' → am_T X 230 1738 [some (.ref 1000), some (.ref 0), some (.ref 101), some (.ref 123), some (.int (nI i)), none, none, none] [] σ' u Q) : am_T X 230 1558 [some (.ref 1000), some (.ref 0), some (.ref 101), some (.ref 123), some (.int (nI i)), none, none, none] [] (jm_s M L G) u Q := by
  obtain ⟨v, hc⟩ := pp_undo (X := X) hA hC hR 
  refine rg_LW_1558 ⟨_, hc, fun v' σ1 h => ?_⟩
  obtain ⟨e1, M1, L1, G1, e2⟩ := lw_s h.1
  have hr := h.2
  subst e1
  subst e2
  refine rg_LW_1562 ⟨_, hr, fun v'' σ2 h2 => ?_⟩
  obtain ⟨e3, M2, L2, G2, a2, e4, h3⟩ := h2
  subst e3
  subst e4
  exact rg_LW_1566 ⟨fun _ => hQ _ ⟨M2, L2, G2, a2, rfl, h3⟩, fun e => absurd rfl e⟩
theorem lc_40 (hv : ∀ w, w < 7 → vp_in (nI i + nI w) X.1) (hA : jAw a) (hC : jC M L G a) (hR : jRR M L a) (hQ : ∀ σ', jI σ' → am_T X 230 1738 [some (.ref 1000), some (.ref 0), some (.ref 101), some (.ref 123), some (.int (nI i)), none, none, none] [] σ' u Q) : am_T X 230 1571 [some (.ref 1000), some (.ref 0), some (.ref 101), some (.ref 123), some (.int (nI i)), none, none, none] [] (jm_s M L G) u Q := by
  obtain ⟨v, hc⟩ := pp_years (X := X) hA hC hR (X.2 (nI i + 1).toNatClampNeg) (X.2 (nI i + 2).toNatClampNeg)
  refine rg_LW_1571 ⟨hv 1 (by decide), hv 2 (by decide), _, hc, fun v' σ1 h => ?_⟩
  obtain ⟨e1, M1, L1, G1, e2⟩ := lw_s h.1
  have hr := h.2
  subst e1
  subst e2
  refine rg_LW_1587 ⟨hv 1 (by decide), hv 2 (by decide), _, hr, fun v'' σ2 h2 => ?_⟩
  obtain ⟨e3, M2, L2, G2, a2, e4, h3⟩ := h2
  subst e3
  subst e4
  exact rg_LW_1603 ⟨fun _ => hQ _ ⟨M2, L2, G2, a2, rfl, h3⟩, fun e => absurd rfl e⟩
theorem lc_41 (hv : ∀ w, w < 7 → vp_in (nI i + nI w) X.1) (hA : jAw a) (hC : jC M L G a) (hR : jRR M L a) (hQ : ∀ σ', jI σ' → am_T X 230 1738 [some (.ref 1000), some (.ref 0), some (.ref 101), some (.ref 123), some (.int (nI i)), none, none, none] [] σ' u Q) : am_T X 230 1608 [some (.ref 1000), some (.ref 0), some (.ref 101), some (.ref 123), some (.int (nI i)), none, none, none] [] (jm_s M L G) u Q := by
  obtain ⟨v, hc⟩ := pp_keep (X := X) hA hC hR (X.2 (nI i + 1).toNatClampNeg)
  refine rg_LW_1608 ⟨hv 1 (by decide), _, hc, fun v' σ1 h => ?_⟩
  obtain ⟨e1, M1, L1, G1, e2⟩ := lw_s h.1
  have hr := h.2
  subst e1
  subst e2
  refine rg_LW_1618 ⟨hv 1 (by decide), _, hr, fun v'' σ2 h2 => ?_⟩
  obtain ⟨e3, M2, L2, G2, a2, e4, h3⟩ := h2
  subst e3
  subst e4
  exact rg_LW_1628 ⟨fun _ => hQ _ ⟨M2, L2, G2, a2, rfl, h3⟩, fun e => absurd rfl e⟩
theorem lc_42 (hv : ∀ w, w < 7 → vp_in (nI i + nI w) X.1) (hA : jAw a) (hC : jC M L G a) (hR : jRR M L a) (hQ : ∀ σ', jI σ' → am_T X 230 1738 [some (.ref 1000), some (.ref 0), some (.ref 101), some (.ref 123), some (.int (nI i)), none, none, none] [] σ' u Q) : am_T X 230 1633 [some (.ref 1000), some (.ref 0), some (.ref 101), some (.ref 123), some (.int (nI i)), none, none, none] [] (jm_s M L G) u Q := by
  obtain ⟨v, hc⟩ := pp_again (X := X) hA hC hR (X.2 (nI i + 1).toNatClampNeg)
  refine rg_LW_1633 ⟨hv 1 (by decide), _, hc, fun v' σ1 h => ?_⟩
  obtain ⟨e1, M1, L1, G1, e2⟩ := lw_s h.1
  have hr := h.2
  subst e1
  subst e2
  refine rg_LW_1643 ⟨hv 1 (by decide), _, hr, fun v'' σ2 h2 => ?_⟩
  obtain ⟨e3, M2, L2, G2, a2, e4, h3⟩ := h2
  subst e3
  subst e4
  exact rg_LW_1653 ⟨fun _ => hQ _ ⟨M2, L2, G2, a2, rfl, h3⟩, fun e => absurd rfl e⟩
theorem lc_43 (hv : ∀ w, w < 7 → vp_in (nI i + nI w) X.1) (hA : jAw a) (hC : jC M L G a) (hR : jRR M L a) (hQ : ∀ σ', jI σ' → am_T X 230 1738 [some (.ref 1000), some (.ref 0), some (.ref 101), some (.ref 123), some (.int (nI i)), none, none, none] [] σ' u Q) : am_T X 230 1658 [some (.ref 1000), some (.ref 0), some (.ref 101), some (.ref 123), some (.int (nI i)), none, none, none] [] (jm_s M L G) u Q := by
  obtain ⟨v, hc⟩ := pp_count (X := X) hA hC hR (X.2 (nI i + 1).toNatClampNeg)
  refine rg_LW_1658 ⟨hv 1 (by decide), _, hc, fun v' σ1 h => ?_⟩
  obtain ⟨e1, M1, L1, G1, e2⟩ := lw_s h.1
  have hr := h.2
  subst e1
  subst e2
  refine rg_LW_1668 ⟨hv 1 (by decide), _, hr, fun v'' σ2 h2 => ?_⟩
  obtain ⟨e3, M2, L2, G2, a2, e4, h3⟩ := h2
  subst e3
  subst e4
  exact rg_LW_1678 ⟨fun _ => hQ _ ⟨M2, L2, G2, a2, rfl, h3⟩, fun e => absurd rfl e⟩
end Cases
