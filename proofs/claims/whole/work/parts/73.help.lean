/-! ===== the law's helpers: calls that may throw (written by wip/gen/gen_help.py) ===== -/
theorem rg_L_span_0 {X : Nat × (Nat → Int32)} {M : Nat → Nat → Int32} {L : Nat → Nat → Int64} {G : Nat → Nat → Option Nat} {Q : am_Q} {x1 : Int32} {x2 : Int32} (h : ∃ (K : Int32 → am_S → Prop) (Kx : am_S → Prop), am_T X 62 0 [some (.ref 0), some (.int x1), some (.int x2)] [] (jm_s M L G) (0, 0) (am_qx K Kx) ∧ (∀ v σ', K v σ' → am_T X 226 8 [none, none, none, none, none] [(.int v), (.int 0), (.ref 123)] σ' (1, 6) Q) ∧ ∀ σ', Kx σ' → am_T X 226 15 [none, none, none, none, none] [] σ' (1, 6) Q) : am_T X 226 0 [some (.ref 0), some (.int x1), some (.int x2), some (.ref 123), none] [] (jm_s M L G) (0, 0) Q := am_T_go [(8, [false, false, false, false, false]), (15, [false, false, false, false, false])] 8 h
theorem rg_L_span_8 {X : Nat × (Nat → Int32)} {M : Nat → Nat → Int32} {L : Nat → Nat → Int64} {G : Nat → Nat → Option Nat} {Q : am_Q} {v : Int32} (h : vp_in 0 1 ∧ Q (some (some (.int 0))) (jm_s M (wl_m L 123 0 v.toInt64) G)) : am_T X 226 8 [none, none, none, none, none] [(.int v), (.int 0), (.ref 123)] (jm_s M L G) (1, 6) Q := am_T_go [] 8 h
theorem rg_L_span_15 {X : Nat × (Nat → Int32)} {M : Nat → Nat → Int32} {L : Nat → Nat → Int64} {G : Nat → Nat → Option Nat} {Q : am_Q} (h : Q (some (some (.int 1))) (jm_s M L G)) : am_T X 226 15 [none, none, none, none, none] [] (jm_s M L G) (1, 6) Q := am_T_go [] 8 h
theorem rg_L_law_0 {X : Nat × (Nat → Int32)} {M : Nat → Nat → Int32} {L : Nat → Nat → Int64} {G : Nat → Nat → Option Nat} {Q : am_Q} {x1 : Int32} {x2 : Int32} (h : ∃ (K : Int32 → am_S → Prop) (Kx : am_S → Prop), am_T X 63 0 [some (.ref 0), some (.int x1), some (.int x2)] [] (jm_s M L G) (0, 0) (am_qx K Kx) ∧ (∀ v σ', K v σ' → am_T X 227 8 [none, none, none, none, none] [(.int v), (.int 0), (.ref 123)] σ' (1, 6) Q) ∧ ∀ σ', Kx σ' → am_T X 227 15 [none, none, none, none, none] [] σ' (1, 6) Q) : am_T X 227 0 [some (.ref 0), some (.int x1), some (.int x2), some (.ref 123), none] [] (jm_s M L G) (0, 0) Q := am_T_go [(8, [false, false, false, false, false]), (15, [false, false, false, false, false])] 8 h
theorem rg_L_law_8 {X : Nat × (Nat → Int32)} {M : Nat → Nat → Int32} {L : Nat → Nat → Int64} {G : Nat → Nat → Option Nat} {Q : am_Q} {v : Int32} (h : vp_in 0 1 ∧ Q (some (some (.int 0))) (jm_s M (wl_m L 123 0 v.toInt64) G)) : am_T X 227 8 [none, none, none, none, none] [(.int v), (.int 0), (.ref 123)] (jm_s M L G) (1, 6) Q := am_T_go [] 8 h
theorem rg_L_law_15 {X : Nat × (Nat → Int32)} {M : Nat → Nat → Int32} {L : Nat → Nat → Int64} {G : Nat → Nat → Option Nat} {Q : am_Q} (h : Q (some (some (.int 1))) (jm_s M L G)) : am_T X 227 15 [none, none, none, none, none] [] (jm_s M L G) (1, 6) Q := am_T_go [] 8 h
theorem rg_L_month_0 {X : Nat × (Nat → Int32)} {M : Nat → Nat → Int32} {L : Nat → Nat → Int64} {G : Nat → Nat → Option Nat} {Q : am_Q} {x1 : Int32} {x2 : Int32} (h : ∃ (K : Int32 → am_S → Prop) (Kx : am_S → Prop), am_T X 64 0 [some (.ref 0), some (.int x1), some (.int x2), none] [] (jm_s M L G) (0, 0) (am_qx K Kx) ∧ (∀ v σ', K v σ' → am_T X 228 8 [none, none, none, none, none] [(.int v), (.int 0), (.ref 123)] σ' (1, 6) Q) ∧ ∀ σ', Kx σ' → am_T X 228 15 [none, none, none, none, none] [] σ' (1, 6) Q) : am_T X 228 0 [some (.ref 0), some (.int x1), some (.int x2), some (.ref 123), none] [] (jm_s M L G) (0, 0) Q := am_T_go [(8, [false, false, false, false, false]), (15, [false, false, false, false, false])] 8 h
theorem rg_L_month_8 {X : Nat × (Nat → Int32)} {M : Nat → Nat → Int32} {L : Nat → Nat → Int64} {G : Nat → Nat → Option Nat} {Q : am_Q} {v : Int32} (h : vp_in 0 1 ∧ Q (some (some (.int 0))) (jm_s M (wl_m L 123 0 v.toInt64) G)) : am_T X 228 8 [none, none, none, none, none] [(.int v), (.int 0), (.ref 123)] (jm_s M L G) (1, 6) Q := am_T_go [] 8 h
theorem rg_L_month_15 {X : Nat × (Nat → Int32)} {M : Nat → Nat → Int32} {L : Nat → Nat → Int64} {G : Nat → Nat → Option Nat} {Q : am_Q} (h : Q (some (some (.int 1))) (jm_s M L G)) : am_T X 228 15 [none, none, none, none, none] [] (jm_s M L G) (1, 6) Q := am_T_go [] 8 h
theorem wl_q {L : Nat → Nat → Int64} {p q i : Nat} {v : Int64} (h : q ≠ p) : wl_m L p i v q = L q := by
  funext j
  rw [wl_m_eq, if_neg h]
theorem hp_span {X : Nat × (Nat → Int32)} {M : Nat → Nat → Int32} {L : Nat → Nat → Int64} {G : Nat → Nat → Option Nat} {x1 : Int32} {x2 : Int32} (hp : jpt X M L G 62 [some (.ref 0), some (.int x1), some (.int x2)] 152 [some (.ref 101), some (.int x1), some (.int x2), none, none]) : am_T X 226 0 [some (.ref 0), some (.int x1), some (.int x2), some (.ref 123), none] [] (jm_s M L G) (0, 0) (am_qi (fun k σ1 => ∃ L1, σ1 = jm_s M L1 G ∧ ∃ Kr : Int32 → am_S → Prop, am_T X 152 0 [some (.ref 101), some (.int x1), some (.int x2), none, none] [] (jm_s M L1 G) (0, 0) (am_qi Kr) ∧ ∀ b σ2, Kr b σ2 → ∃ M2 a, σ2 = jm_s M2 L1 G ∧ jAw a ∧ jC M2 L1 G a ∧ jRR M2 L1 a ∧ M2 101 5 = k ∧ (k = 0 → L1 123 0 = b.toInt64) ∧ (k = 0 ∨ k = 1))) := by
  rcases hp with ⟨v, c, r⟩ | ⟨c, r⟩
  · refine rg_L_span_0 ⟨fun v' σ' => v' = v ∧ σ' = jm_s M L G, fun _ => False, c _ (Or.inl ⟨v, rfl, rfl, rfl⟩), fun v' σ' h => ?_, fun _ h => h.elim⟩
    obtain ⟨e1, e2⟩ := h
    subst e1
    subst e2
    refine rg_L_span_8 ⟨vp_in_nI (show 0 < 1 by decide) (by decide), 0, rfl, _, rfl, _, r (wl_m L 123 0 v'.toInt64) (wl_q (by decide)) (wl_q (by decide)), fun b σ2 h => ?_⟩
    obtain ⟨e3, M2, a2, e4, h1, h2, h3, h4⟩ := h
    refine ⟨M2, a2, e4, h1, h2, h3, h4, fun _ => ?_, Or.inl rfl⟩
    rw [wl_m_eq, if_pos rfl, if_pos rfl, e3]
  · refine rg_L_span_0 ⟨fun _ _ => False, fun σ' => σ' = jm_s M L G, c _ (Or.inr ⟨rfl, rfl⟩), fun _ _ h => h.elim, fun σ' h => ?_⟩
    subst h
    refine rg_L_span_15 ⟨1, rfl, _, rfl, _, r L rfl rfl, fun b σ2 h => ?_⟩
    obtain ⟨M2, a2, e4, h1, h2, h3, h4⟩ := h
    exact ⟨M2, a2, e4, h1, h2, h3, h4, fun e => absurd e (by decide), Or.inr rfl⟩
theorem hp_law {X : Nat × (Nat → Int32)} {M : Nat → Nat → Int32} {L : Nat → Nat → Int64} {G : Nat → Nat → Option Nat} {x1 : Int32} {x2 : Int32} (hp : jpt X M L G 63 [some (.ref 0), some (.int x1), some (.int x2)] 153 [some (.ref 101), some (.int x1), some (.int x2)]) : am_T X 227 0 [some (.ref 0), some (.int x1), some (.int x2), some (.ref 123), none] [] (jm_s M L G) (0, 0) (am_qi (fun k σ1 => ∃ L1, σ1 = jm_s M L1 G ∧ ∃ Kr : Int32 → am_S → Prop, am_T X 153 0 [some (.ref 101), some (.int x1), some (.int x2)] [] (jm_s M L1 G) (0, 0) (am_qi Kr) ∧ ∀ b σ2, Kr b σ2 → ∃ M2 a, σ2 = jm_s M2 L1 G ∧ jAw a ∧ jC M2 L1 G a ∧ jRR M2 L1 a ∧ M2 101 5 = k ∧ (k = 0 → L1 123 0 = b.toInt64) ∧ (k = 0 ∨ k = 1))) := by
  rcases hp with ⟨v, c, r⟩ | ⟨c, r⟩
  · refine rg_L_law_0 ⟨fun v' σ' => v' = v ∧ σ' = jm_s M L G, fun _ => False, c _ (Or.inl ⟨v, rfl, rfl, rfl⟩), fun v' σ' h => ?_, fun _ h => h.elim⟩
    obtain ⟨e1, e2⟩ := h
    subst e1
    subst e2
    refine rg_L_law_8 ⟨vp_in_nI (show 0 < 1 by decide) (by decide), 0, rfl, _, rfl, _, r (wl_m L 123 0 v'.toInt64) (wl_q (by decide)) (wl_q (by decide)), fun b σ2 h => ?_⟩
    obtain ⟨e3, M2, a2, e4, h1, h2, h3, h4⟩ := h
    refine ⟨M2, a2, e4, h1, h2, h3, h4, fun _ => ?_, Or.inl rfl⟩
    rw [wl_m_eq, if_pos rfl, if_pos rfl, e3]
  · refine rg_L_law_0 ⟨fun _ _ => False, fun σ' => σ' = jm_s M L G, c _ (Or.inr ⟨rfl, rfl⟩), fun _ _ h => h.elim, fun σ' h => ?_⟩
    subst h
    refine rg_L_law_15 ⟨1, rfl, _, rfl, _, r L rfl rfl, fun b σ2 h => ?_⟩
    obtain ⟨M2, a2, e4, h1, h2, h3, h4⟩ := h
    exact ⟨M2, a2, e4, h1, h2, h3, h4, fun e => absurd e (by decide), Or.inr rfl⟩
theorem hp_month {X : Nat × (Nat → Int32)} {M : Nat → Nat → Int32} {L : Nat → Nat → Int64} {G : Nat → Nat → Option Nat} {x1 : Int32} {x2 : Int32} (hp : jpt X M L G 64 [some (.ref 0), some (.int x1), some (.int x2), none] 154 [some (.ref 101), some (.int x1), some (.int x2)]) : am_T X 228 0 [some (.ref 0), some (.int x1), some (.int x2), some (.ref 123), none] [] (jm_s M L G) (0, 0) (am_qi (fun k σ1 => ∃ L1, σ1 = jm_s M L1 G ∧ ∃ Kr : Int32 → am_S → Prop, am_T X 154 0 [some (.ref 101), some (.int x1), some (.int x2)] [] (jm_s M L1 G) (0, 0) (am_qi Kr) ∧ ∀ b σ2, Kr b σ2 → ∃ M2 a, σ2 = jm_s M2 L1 G ∧ jAw a ∧ jC M2 L1 G a ∧ jRR M2 L1 a ∧ M2 101 5 = k ∧ (k = 0 → L1 123 0 = b.toInt64) ∧ (k = 0 ∨ k = 1))) := by
  rcases hp with ⟨v, c, r⟩ | ⟨c, r⟩
  · refine rg_L_month_0 ⟨fun v' σ' => v' = v ∧ σ' = jm_s M L G, fun _ => False, c _ (Or.inl ⟨v, rfl, rfl, rfl⟩), fun v' σ' h => ?_, fun _ h => h.elim⟩
    obtain ⟨e1, e2⟩ := h
    subst e1
    subst e2
    refine rg_L_month_8 ⟨vp_in_nI (show 0 < 1 by decide) (by decide), 0, rfl, _, rfl, _, r (wl_m L 123 0 v'.toInt64) (wl_q (by decide)) (wl_q (by decide)), fun b σ2 h => ?_⟩
    obtain ⟨e3, M2, a2, e4, h1, h2, h3, h4⟩ := h
    refine ⟨M2, a2, e4, h1, h2, h3, h4, fun _ => ?_, Or.inl rfl⟩
    rw [wl_m_eq, if_pos rfl, if_pos rfl, e3]
  · refine rg_L_month_0 ⟨fun _ _ => False, fun σ' => σ' = jm_s M L G, c _ (Or.inr ⟨rfl, rfl⟩), fun _ _ h => h.elim, fun σ' h => ?_⟩
    subst h
    refine rg_L_month_15 ⟨1, rfl, _, rfl, _, r L rfl rfl, fun b σ2 h => ?_⟩
    obtain ⟨M2, a2, e4, h1, h2, h3, h4⟩ := h
    exact ⟨M2, a2, e4, h1, h2, h3, h4, fun e => absurd e (by decide), Or.inr rfl⟩
