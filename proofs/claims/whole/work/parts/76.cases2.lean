/-! ===== the cases of the law's loop: calls that may throw (written by wip/gen/gen_cases2.py) ===== -/
theorem lg_same (v : Int64) : lg_cmp v v = 0 := by
  unfold lg_cmp
  simp
section Cases2
variable {X : Nat × (Nat → Int32)} {M : Nat → Nat → Int32} {L : Nat → Nat → Int64} {G : Nat → Nat → Option Nat} {Q : am_Q} {u : Nat × Nat} {a : jA} {i : Nat}
theorem lc_6 (h1 : u.1 + 1 ≤ 601024) (h2 : u.2 + 6 ≤ 7293034) (hv : ∀ w, w < 7 → vp_in (nI i + nI w) X.1) (hA : jAw a) (hC : jC M L G a) (hR : jRR M L a) (hQ : ∀ σ', jI σ' → am_T X 230 1738 [some (.ref 1000), some (.ref 0), some (.ref 101), some (.ref 123), some (.int (nI i)), none, none, none] [] σ' (u.1 + 1, u.2 + 6) Q) : am_T X 230 386 [some (.ref 1000), some (.ref 0), some (.ref 101), some (.ref 123), some (.int (nI i)), none, none, none] [] (jm_s M L G) u Q := by
  refine rg_LW_386 ⟨hv 1 (by decide), hv 2 (by decide), rg_LW_400 h1 h2 ⟨_, hp_span (pt_span hA hC hR _ _), fun k σ1 h => ?_⟩⟩
  obtain ⟨L1, e1, Kr, hr, hk⟩ := h
  subst e1
  refine rg_LW_403 ⟨hv 1 (by decide), hv 2 (by decide), Kr, hr, fun b σ2 h => ?_⟩
  obtain ⟨M2, a2, e2, g1, g2, g3, g4, g5, g6⟩ := hk b σ2 h
  subst e2
  have fin := hQ (jm_s M2 L1 G) ⟨M2, L1, G, a2, rfl, g1, g2, g3⟩
  refine rg_LW_421 (cl_i (fun _ h => rg_X6_thrown_101_0 h) (rg_LW_427 ⟨fun _ => ⟨fun _ => fin, fun e => ⟨vp_in_nI (show 0 < 1 by decide) (by decide), fun _ => fin, fun e2 => absurd ?_ e2⟩⟩, fun e => absurd g4 e⟩))
  rw [g5 e]
  exact lg_same _
theorem lc_7 (h1 : u.1 + 1 ≤ 601024) (h2 : u.2 + 6 ≤ 7293034) (hv : ∀ w, w < 7 → vp_in (nI i + nI w) X.1) (hA : jAw a) (hC : jC M L G a) (hR : jRR M L a) (hQ : ∀ σ', jI σ' → am_T X 230 1738 [some (.ref 1000), some (.ref 0), some (.ref 101), some (.ref 123), some (.int (nI i)), none, none, none] [] σ' (u.1 + 1, u.2 + 6) Q) : am_T X 230 454 [some (.ref 1000), some (.ref 0), some (.ref 101), some (.ref 123), some (.int (nI i)), none, none, none] [] (jm_s M L G) u Q := by
  refine rg_LW_454 ⟨hv 1 (by decide), hv 2 (by decide), rg_LW_468 h1 h2 ⟨_, hp_law (pt_law hA hC hR _ _), fun k σ1 h => ?_⟩⟩
  obtain ⟨L1, e1, Kr, hr, hk⟩ := h
  subst e1
  refine rg_LW_471 ⟨hv 1 (by decide), hv 2 (by decide), Kr, hr, fun b σ2 h => ?_⟩
  obtain ⟨M2, a2, e2, g1, g2, g3, g4, g5, g6⟩ := hk b σ2 h
  subst e2
  have fin := hQ (jm_s M2 L1 G) ⟨M2, L1, G, a2, rfl, g1, g2, g3⟩
  refine rg_LW_489 (cl_i (fun _ h => rg_X6_thrown_101_0 h) (rg_LW_495 ⟨fun _ => ⟨fun _ => fin, fun e => ⟨vp_in_nI (show 0 < 1 by decide) (by decide), fun _ => fin, fun e2 => absurd ?_ e2⟩⟩, fun e => absurd g4 e⟩))
  rw [g5 e]
  exact lg_same _
theorem lc_8 (h1 : u.1 + 1 ≤ 601024) (h2 : u.2 + 6 ≤ 7293034) (hv : ∀ w, w < 7 → vp_in (nI i + nI w) X.1) (hA : jAw a) (hC : jC M L G a) (hR : jRR M L a) (hQ : ∀ σ', jI σ' → am_T X 230 1738 [some (.ref 1000), some (.ref 0), some (.ref 101), some (.ref 123), some (.int (nI i)), none, none, none] [] σ' (u.1 + 1, u.2 + 6) Q) : am_T X 230 522 [some (.ref 1000), some (.ref 0), some (.ref 101), some (.ref 123), some (.int (nI i)), none, none, none] [] (jm_s M L G) u Q := by
  refine rg_LW_522 ⟨hv 1 (by decide), hv 2 (by decide), rg_LW_536 h1 h2 ⟨_, hp_month (pt_month hA hC hR _ _), fun k σ1 h => ?_⟩⟩
  obtain ⟨L1, e1, Kr, hr, hk⟩ := h
  subst e1
  refine rg_LW_539 ⟨hv 1 (by decide), hv 2 (by decide), Kr, hr, fun b σ2 h => ?_⟩
  obtain ⟨M2, a2, e2, g1, g2, g3, g4, g5, g6⟩ := hk b σ2 h
  subst e2
  have fin := hQ (jm_s M2 L1 G) ⟨M2, L1, G, a2, rfl, g1, g2, g3⟩
  refine rg_LW_557 (cl_i (fun _ h => rg_X6_thrown_101_0 h) (rg_LW_563 ⟨fun _ => ⟨fun _ => fin, fun e => ⟨vp_in_nI (show 0 < 1 by decide) (by decide), fun _ => fin, fun e2 => absurd ?_ e2⟩⟩, fun e => absurd g4 e⟩))
  rw [g5 e]
  exact lg_same _
end Cases2
