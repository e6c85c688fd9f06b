/-! ===== the cases of the law's loop: row (written by wip/gen/gen_cases3.py) ===== -/
theorem rg_L_row_0 {X : Nat × (Nat → Int32)} {M : Nat → Nat → Int32} {L : Nat → Nat → Int64} {G : Nat → Nat → Option Nat} {Q : am_Q} {x1 : Int32} (h : ∃ (K : Int64 → am_S → Prop) (Kx : am_S → Prop), am_T X 100 0 [some (.ref 0), some (.int x1)] [] (jm_s M L G) (0, 0) (am_qy K Kx) ∧ (∀ v σ', K v σ' → am_T X 229 7 [none, none, none, none] [(.long v), (.int 0), (.ref 123)] σ' (1, 6) Q) ∧ ∀ σ', Kx σ' → am_T X 229 12 [none, none, none, none] [] σ' (1, 6) Q) : am_T X 229 0 [some (.ref 0), some (.int x1), some (.ref 123), none] [] (jm_s M L G) (0, 0) Q := am_T_go [(7, [false, false, false, false]), (12, [false, false, false, false])] 8 h
theorem rg_L_row_7 {X : Nat × (Nat → Int32)} {M : Nat → Nat → Int32} {L : Nat → Nat → Int64} {G : Nat → Nat → Option Nat} {Q : am_Q} {v : Int64} (h : vp_in 0 1 ∧ Q (some (some (.int 0))) (jm_s M (wl_m L 123 0 v) G)) : am_T X 229 7 [none, none, none, none] [(.long v), (.int 0), (.ref 123)] (jm_s M L G) (1, 6) Q := am_T_go [] 8 h
theorem rg_L_row_12 {X : Nat × (Nat → Int32)} {M : Nat → Nat → Int32} {L : Nat → Nat → Int64} {G : Nat → Nat → Option Nat} {Q : am_Q} (h : Q (some (some (.int 1))) (jm_s M L G)) : am_T X 229 12 [none, none, none, none] [] (jm_s M L G) (1, 6) Q := am_T_go [] 8 h
theorem hp_row {X : Nat × (Nat → Int32)} {M : Nat → Nat → Int32} {L : Nat → Nat → Int64} {G : Nat → Nat → Option Nat} {x1 : Int32} (hp : jpu X M L G 100 [some (.ref 0), some (.int x1)] 225 [some (.ref 101), some (.int x1)]) : am_T X 229 0 [some (.ref 0), some (.int x1), some (.ref 123), none] [] (jm_s M L G) (0, 0) (am_qi (fun k σ1 => ∃ L1, σ1 = jm_s M L1 G ∧ ∃ Kr : Int64 → am_S → Prop, am_T X 225 0 [some (.ref 101), some (.int x1)] [] (jm_s M L1 G) (0, 0) (am_ql Kr) ∧ ∀ b σ2, Kr b σ2 → ∃ M2 a, σ2 = jm_s M2 L1 G ∧ jAw a ∧ jC M2 L1 G a ∧ jRR M2 L1 a ∧ M2 101 5 = k ∧ (k = 0 → L1 123 0 = b) ∧ (k = 0 ∨ k = 1))) := by
  rcases hp with ⟨v, c, r⟩ | ⟨c, r⟩
  · refine rg_L_row_0 ⟨fun v' σ' => v' = v ∧ σ' = jm_s M L G, fun _ => False, c _ (Or.inl ⟨v, rfl, rfl, rfl⟩), fun v' σ' h => ?_, fun _ h => h.elim⟩
    obtain ⟨e1, e2⟩ := h
    subst e1
    subst e2
    refine rg_L_row_7 ⟨vp_in_nI (show 0 < 1 by decide) (by decide), 0, rfl, _, rfl, _, r (wl_m L 123 0 v') (wl_q (by decide)) (wl_q (by decide)), fun b σ2 h => ?_⟩
    obtain ⟨e3, M2, a2, e4, h1, h2, h3, h4⟩ := h
    refine ⟨M2, a2, e4, h1, h2, h3, h4, fun _ => ?_, Or.inl rfl⟩
    rw [wl_m_eq, if_pos rfl, if_pos rfl, e3]
  · refine rg_L_row_0 ⟨fun _ _ => False, fun σ' => σ' = jm_s M L G, c _ (Or.inr ⟨rfl, rfl⟩), fun _ _ h => h.elim, fun σ' h => ?_⟩
    subst h
    refine rg_L_row_12 ⟨1, rfl, _, rfl, _, r L rfl rfl, fun b σ2 h => ?_⟩
    obtain ⟨M2, a2, e4, h1, h2, h3, h4⟩ := h
    exact ⟨M2, a2, e4, h1, h2, h3, h4, fun e => absurd e (by decide), Or.inr rfl⟩
theorem lc_44 {X : Nat × (Nat → Int32)} {M : Nat → Nat → Int32} {L : Nat → Nat → Int64} {G : Nat → Nat → Option Nat} {Q : am_Q} {u : Nat × Nat} {a : jA} {i : Nat} (h1 : u.1 + 1 ≤ 601024) (h2 : u.2 + 6 ≤ 7293034) (hv : ∀ w, w < 7 → vp_in (nI i + nI w) X.1) (hA : jAw a) (hC : jC M L G a) (hR : jRR M L a) (hQ : ∀ σ', jI σ' → am_T X 230 1738 [some (.ref 1000), some (.ref 0), some (.ref 101), some (.ref 123), some (.int (nI i)), none, none, none] [] σ' (u.1 + 1, u.2 + 6) Q) : am_T X 230 1683 [some (.ref 1000), some (.ref 0), some (.ref 101), some (.ref 123), some (.int (nI i)), none, none, none] [] (jm_s M L G) u Q := by
  refine rg_LW_1683 ⟨hv 1 (by decide), rg_LW_1691 h1 h2 ⟨_, hp_row (pt_row hA hC hR _), fun k σ1 h => ?_⟩⟩
  obtain ⟨L1, e1, Kr, hr, hk⟩ := h
  subst e1
  refine rg_LW_1694 ⟨hv 1 (by decide), Kr, hr, fun b σ2 h => ?_⟩
  obtain ⟨M2, a2, e2, g1, g2, g3, g4, g5, g6⟩ := hk b σ2 h
  subst e2
  have fin := hQ (jm_s M2 L1 G) ⟨M2, L1, G, a2, rfl, g1, g2, g3⟩
  refine rg_LW_1706 (cl_i (fun _ h => rg_X6_thrown_101_0 h) (rg_LW_1712 ⟨fun _ => ⟨fun _ => fin, fun e => ⟨vp_in_nI (show 0 < 1 by decide) (by decide), fun _ => fin, fun e2 => absurd ?_ e2⟩⟩, fun e => absurd g4 e⟩))
  rw [g5 e]
  exact lg_same _
