/-! ===== Claims.reckon inside of the constructor (copied from parts 24 to 38 by wip/gen/gen_reckz.py) ===== -/
noncomputable def am_SZ : List am_Sh := [.inl (5, [some (some 1), some (some 3), some (some 5), some (some 10), some (some 15), some (some 31), some (some 47), none, some (some 88), some (some 99), some (some 100)]),
  .inl (4, [some (some 2), none, none, none]),
  .inr (2, 80),
  .inl (2, [some (some 4), none]),
  .inr (4, 120),
  .inl (3, [none, some (some 9), some (some 6), some (some 7), some (some 8), none, none]),
  .inr (0, 20),
  .inr (0, 4),
  .inr (0, 30),
  .inr (0, 100),
  .inl (3, [none, some (some 14), some (some 11), some (some 12), some (some 13), none, none]),
  .inr (0, 20),
  .inr (0, 4),
  .inr (0, 30),
  .inr (0, 220),
  .inl (0, [some (some 16), some (some 24), some (some 25), some (some 26), some (some 27), some (some 28), some (some 29), some (some 30), none, none, none, none, none]),
  .inl (1, [some (some 17), some (some 18), some (some 19), some (some 20), some (some 21), some (some 22), some (some 23), none]),
  .inr (0, 360),
  .inr (0, 360),
  .inr (0, 360),
  .inr (0, 360),
  .inr (0, 360),
  .inr (0, 44),
  .inr (0, 44),
  .inr (0, 5),
  .inr (0, 5),
  .inr (0, 5),
  .inr (0, 5),
  .inr (0, 5),
  .inr (0, 5),
  .inr (0, 5),
  .inl (0, [some (some 32), some (some 40), some (some 41), some (some 42), some (some 43), some (some 44), some (some 45), some (some 46), none, none, none, none, none]),
  .inl (1, [some (some 33), some (some 34), some (some 35), some (some 36), some (some 37), some (some 38), some (some 39), none]),
  .inr (0, 360),
  .inr (0, 360),
  .inr (0, 360),
  .inr (0, 360),
  .inr (0, 360),
  .inr (0, 44),
  .inr (0, 44),
  .inr (0, 5),
  .inr (0, 5),
  .inr (0, 5),
  .inr (0, 5),
  .inr (0, 5),
  .inr (0, 5),
  .inr (0, 5),
  .inr (5, 8),
  .inl (3, [none, some (some 52), some (some 49), some (some 50), some (some 51), none, none]),
  .inr (0, 20),
  .inr (0, 4),
  .inr (0, 30),
  .inr (0, 100),
  .inl (3, [none, some (some 57), some (some 54), some (some 55), some (some 56), none, none]),
  .inr (0, 20),
  .inr (0, 4),
  .inr (0, 30),
  .inr (0, 100),
  .inl (3, [none, some (some 62), some (some 59), some (some 60), some (some 61), none, none]),
  .inr (0, 20),
  .inr (0, 4),
  .inr (0, 30),
  .inr (0, 100),
  .inl (3, [none, some (some 67), some (some 64), some (some 65), some (some 66), none, none]),
  .inr (0, 20),
  .inr (0, 4),
  .inr (0, 30),
  .inr (0, 100),
  .inl (3, [none, some (some 72), some (some 69), some (some 70), some (some 71), none, none]),
  .inr (0, 20),
  .inr (0, 4),
  .inr (0, 30),
  .inr (0, 100),
  .inl (3, [none, some (some 77), some (some 74), some (some 75), some (some 76), none, none]),
  .inr (0, 20),
  .inr (0, 4),
  .inr (0, 30),
  .inr (0, 100),
  .inl (3, [none, some (some 82), some (some 79), some (some 80), some (some 81), none, none]),
  .inr (0, 20),
  .inr (0, 4),
  .inr (0, 30),
  .inr (0, 100),
  .inl (3, [none, some (some 87), some (some 84), some (some 85), some (some 86), none, none]),
  .inr (0, 20),
  .inr (0, 4),
  .inr (0, 30),
  .inr (0, 100),
  .inr (5, 2),
  .inl (3, [none, some (some 93), some (some 90), some (some 91), some (some 92), none, none]),
  .inr (0, 20),
  .inr (0, 4),
  .inr (0, 30),
  .inr (0, 100),
  .inl (3, [none, some (some 98), some (some 95), some (some 96), some (some 97), none, none]),
  .inr (0, 20),
  .inr (0, 4),
  .inr (0, 30),
  .inr (0, 100),
  .inr (3, 2),
  .inr (0, 20)]
noncomputable abbrev jm_z (M : Nat → Nat → Int32) (L : Nat → Nat → Int64) (G : Nat → Nat → Option Nat) : am_S := (am_SZ, M, L, G, 0)
theorem rz_X0_reckon_15_5_0 {X : Nat × (Nat → Int32)} {M : Nat → Nat → Int32} {L : Nat → Nat → Int64} {G : Nat → Nat → Option Nat} {Q : am_Q} (h : (∃ K : am_S → Prop, am_T X 10 0 [some (.ref 16), some (.ref 5)] [] (jm_z M L G) (0, 0) (am_qv K) ∧ ∀ σ', K σ' → am_T X 1 8 [some (.ref 15), some (.ref 5), none] [] σ' (0, 0) Q)) : am_T X 1 0 [some (.ref 15), some (.ref 5), none] [] (jm_z M L G) (0, 0) Q := am_T_go [(8, [true, true, false]), (12, [true, true, false]), (20, [true, true, false]), (28, [true, true, false]), (35, [true, true, true]), (46, [true, true, true]), (56, [true, true, true])] 4 h
theorem rz_X0_reckon_15_5_8 {X : Nat × (Nat → Int32)} {M : Nat → Nat → Int32} {L : Nat → Nat → Int64} {G : Nat → Nat → Option Nat} {Q : am_Q} (h : (∃ K : am_S → Prop, am_T X 2 0 [some (.ref 15), none, none] [] (jm_z M L G) (0, 0) (am_qv K) ∧ ∀ σ', K σ' → am_T X 1 12 [some (.ref 15), some (.ref 5), none] [] σ' (0, 0) Q)) : am_T X 1 8 [some (.ref 15), some (.ref 5), none] [] (jm_z M L G) (0, 0) Q := am_T_go [(8, [true, true, false]), (12, [true, true, false]), (20, [true, true, false]), (28, [true, true, false]), (35, [true, true, true]), (46, [true, true, true]), (56, [true, true, true])] 2 h
theorem rz_X0_reckon_15_5_12 {X : Nat × (Nat → Int32)} {M : Nat → Nat → Int32} {L : Nat → Nat → Int64} {G : Nat → Nat → Option Nat} {Q : am_Q} (h : (∃ K : am_S → Prop, am_T X 4 0 [some (.ref 15), some (.int (M 5 6)), none, none] [] (jm_z M L G) (0, 0) (am_qv K) ∧ ∀ σ', K σ' → am_T X 1 20 [some (.ref 15), some (.ref 5), none] [] σ' (0, 0) Q)) : am_T X 1 12 [some (.ref 15), some (.ref 5), none] [] (jm_z M L G) (0, 0) Q := am_T_go [(8, [true, true, false]), (12, [true, true, false]), (20, [true, true, false]), (28, [true, true, false]), (35, [true, true, true]), (46, [true, true, true]), (56, [true, true, true])] 4 h
theorem rz_X0_reckon_15_5_20 {X : Nat × (Nat → Int32)} {M : Nat → Nat → Int32} {L : Nat → Nat → Int64} {G : Nat → Nat → Option Nat} {Q : am_Q} (h : (∃ K : am_S → Prop, am_T X 5 0 [some (.ref 15), some (.int (M 5 6)), none, none] [] (jm_z M L G) (0, 0) (am_qv K) ∧ ∀ σ', K σ' → am_T X 1 28 [some (.ref 15), some (.ref 5), none] [] σ' (0, 0) Q)) : am_T X 1 20 [some (.ref 15), some (.ref 5), none] [] (jm_z M L G) (0, 0) Q := am_T_go [(8, [true, true, false]), (12, [true, true, false]), (20, [true, true, false]), (28, [true, true, false]), (35, [true, true, true]), (46, [true, true, true]), (56, [true, true, true])] 4 h
theorem rz_X0_reckon_15_5_28 {X : Nat × (Nat → Int32)} {M : Nat → Nat → Int32} {L : Nat → Nat → Int64} {G : Nat → Nat → Option Nat} {Q : am_Q} (h : am_T X 1 35 [some (.ref 15), some (.ref 5), some (.int 0)] [] (jm_z (wi_m M 15 12 0) L G) (0, 0) Q) : am_T X 1 28 [some (.ref 15), some (.ref 5), none] [] (jm_z M L G) (0, 0) Q := am_T_go [(8, [true, true, false]), (12, [true, true, false]), (20, [true, true, false]), (28, [true, true, false]), (35, [true, true, true]), (46, [true, true, true]), (56, [true, true, true])] 6 h
theorem rz_X0_reckon_15_5_35 {X : Nat × (Nat → Int32)} {M : Nat → Nat → Int32} {L : Nat → Nat → Int64} {G : Nat → Nat → Option Nat} {Q : am_Q} {x2 : Int32} (h : ((5 ≤ x2 → (Q (some none) (jm_z M L G))) ∧ (¬ 5 ≤ x2 → (∃ K : am_S → Prop, am_T X 6 0 [some (.ref 15), some (.ref 5), some (.int x2), none, none, none] [] (jm_z M L G) (0, 0) (am_qv K) ∧ ∀ σ', K σ' → am_T X 1 46 [some (.ref 15), some (.ref 5), some (.int x2)] [] σ' (0, 0) Q)))) : am_T X 1 35 [some (.ref 15), some (.ref 5), some (.int x2)] [] (jm_z M L G) (0, 0) Q := am_T_go [(8, [true, true, false]), (12, [true, true, false]), (20, [true, true, false]), (28, [true, true, false]), (35, [true, true, true]), (46, [true, true, true]), (56, [true, true, true])] 7 h
theorem rz_X0_reckon_15_5_46 {X : Nat × (Nat → Int32)} {M : Nat → Nat → Int32} {L : Nat → Nat → Int64} {G : Nat → Nat → Option Nat} {Q : am_Q} {x2 : Int32} (h : (∃ K : Int32 → am_S → Prop, am_T X 8 0 [some (.ref 15), some (.int x2)] [] (jm_z M L G) (0, 0) (am_qi K) ∧ ∀ v σ', K v σ' → am_T X 1 56 [some (.ref 15), some (.ref 5), some (.int x2)] [(.int v), (.int (M 15 12)), (.ref 15)] σ' (0, 0) Q)) : am_T X 1 46 [some (.ref 15), some (.ref 5), some (.int x2)] [] (jm_z M L G) (0, 0) Q := am_T_go [(8, [true, true, false]), (12, [true, true, false]), (20, [true, true, false]), (28, [true, true, false]), (35, [true, true, true]), (46, [true, true, true]), (56, [true, true, true])] 6 h
theorem rz_X0_reckon_15_5_56 {X : Nat × (Nat → Int32)} {M : Nat → Nat → Int32} {L : Nat → Nat → Int64} {G : Nat → Nat → Option Nat} {Q : am_Q} {x2 : Int32} {s1 : Int32} {s2 : Int32} (h : am_T X 1 35 [some (.ref 15), some (.ref 5), some (.int (x2 + 1))] [] (jm_z (wi_m M 15 12 (s1 + s2)) L G) (0, 0) Q) : am_T X 1 56 [some (.ref 15), some (.ref 5), some (.int x2)] [(.int s2), (.int s1), (.ref 15)] (jm_z M L G) (0, 0) Q := am_T_go [(8, [true, true, false]), (12, [true, true, false]), (20, [true, true, false]), (28, [true, true, false]), (35, [true, true, true]), (46, [true, true, true]), (56, [true, true, true])] 5 h
theorem rz_X0_addMonths_15_0 {X : Nat × (Nat → Int32)} {M : Nat → Nat → Int32} {L : Nat → Nat → Int64} {G : Nat → Nat → Option Nat} {Q : am_Q} (h : am_T X 2 2 [some (.ref 15), some (.int 0), none] [] (jm_z M L G) (0, 0) Q) : am_T X 2 0 [some (.ref 15), none, none] [] (jm_z M L G) (0, 0) Q := am_T_go [(2, [true, true, false]), (36, [true, true, false]), (57, [true, true, true]), (130, [true, true, true]), (179, [true, true, true]), (195, [false, false, false])] 3 h
theorem rz_X0_addMonths_15_2 {X : Nat × (Nat → Int32)} {M : Nat → Nat → Int32} {L : Nat → Nat → Int64} {G : Nat → Nat → Option Nat} {Q : am_Q} {x1 : Int32} (h : ((5 ≤ x1 → am_T X 2 36 [some (.ref 15), some (.int 0), none] [] (jm_z M L G) (0, 0) Q) ∧ (¬ 5 ≤ x1 → (vp_in x1 5 ∧ (vp_in x1 5 ∧ (vp_in x1 5 ∧ am_T X 2 2 [some (.ref 15), some (.int (x1 + 1)), none] [] (jm_z (wi_m (wi_m (wi_m M 24 x1.toNatClampNeg 0) 25 x1.toNatClampNeg 0) 26 x1.toNatClampNeg 0) L G) (0, 0) Q)))))) : am_T X 2 2 [some (.ref 15), some (.int x1), none] [] (jm_z M L G) (0, 0) Q := am_T_go [(2, [true, true, false]), (36, [true, true, false]), (57, [true, true, true]), (130, [true, true, true]), (179, [true, true, true]), (195, [false, false, false])] 21 h
theorem rz_X0_addMonths_15_36 {X : Nat × (Nat → Int32)} {M : Nat → Nat → Int32} {L : Nat → Nat → Int64} {G : Nat → Nat → Option Nat} {Q : am_Q} {x1 : Int32} (h : ((360 ≤ x1 → am_T X 2 130 [some (.ref 15), some (.int 0), some (.int 0)] [] (jm_z (wi_m M 15 8 0) L G) (0, 0) Q) ∧ (¬ 360 ≤ x1 → (vp_in x1 360 ∧ (∃ K : Int32 → am_S → Prop, am_T X 103 0 [some (.int (M 20 x1.toNatClampNeg))] [] (jm_z M L G) (0, 0) (am_qi K) ∧ ∀ v σ', K v σ' → am_T X 2 57 [some (.ref 15), some (.int x1), some (.int (M 20 x1.toNatClampNeg))] [(.int v)] σ' (0, 0) Q))))) : am_T X 2 36 [some (.ref 15), some (.int x1), none] [] (jm_z M L G) (0, 0) Q := am_T_go [(2, [true, true, false]), (36, [true, true, false]), (57, [true, true, true]), (130, [true, true, true]), (179, [true, true, true]), (195, [false, false, false])] 11 h
theorem rz_X0_addMonths_15_57 {X : Nat × (Nat → Int32)} {M : Nat → Nat → Int32} {L : Nat → Nat → Int64} {G : Nat → Nat → Option Nat} {Q : am_Q} {x1 : Int32} {x2 : Int32} {s0 : Int32} (h : ((s0 = 0 → am_T X 2 36 [some (.ref 15), some (.int (x1 + 1)), none] [] (jm_z M L G) (0, 0) Q) ∧ (¬ s0 = 0 → (vp_in x2 5 ∧ (vp_in x2 5 ∧ (vp_in x2 5 ∧ (vp_in x1 360 ∧ (((M 19 x1.toNatClampNeg) = (-1) → (vp_in x2 5 ∧ (vp_in x2 5 ∧ (vp_in x1 360 ∧ (vp_in x2 5 ∧ am_T X 2 36 [some (.ref 15), some (.int (x1 + 1)), none] [] (jm_z (wi_m (wi_m (wi_m M 24 x2.toNatClampNeg ((M 24 x2.toNatClampNeg) + 1)) 25 x2.toNatClampNeg ((M 25 x2.toNatClampNeg) + 0)) 26 x2.toNatClampNeg ((M 26 x2.toNatClampNeg) + (M 21 x1.toNatClampNeg))) L G) (0, 0) Q))))) ∧ (¬ (M 19 x1.toNatClampNeg) = (-1) → (vp_in x2 5 ∧ (vp_in x2 5 ∧ (vp_in x1 360 ∧ (vp_in x2 5 ∧ am_T X 2 36 [some (.ref 15), some (.int (x1 + 1)), none] [] (jm_z (wi_m (wi_m (wi_m M 24 x2.toNatClampNeg ((M 24 x2.toNatClampNeg) + 1)) 25 x2.toNatClampNeg ((M 25 x2.toNatClampNeg) + 1)) 26 x2.toNatClampNeg ((M 26 x2.toNatClampNeg) + (M 21 x1.toNatClampNeg))) L G) (0, 0) Q))))))))))))) : am_T X 2 57 [some (.ref 15), some (.int x1), some (.int x2)] [(.int s0)] (jm_z M L G) (0, 0) Q := am_T_go [(2, [true, true, false]), (36, [true, true, false]), (57, [true, true, true]), (130, [true, true, true]), (179, [true, true, true]), (195, [false, false, false])] 40 h
theorem rz_X0_addMonths_15_130 {X : Nat × (Nat → Int32)} {M : Nat → Nat → Int32} {L : Nat → Nat → Int64} {G : Nat → Nat → Option Nat} {Q : am_Q} {x1 : Int32} {x2 : Int32} (h : ((5 ≤ x2 → (∃ K : Int32 → am_S → Prop, am_T X 3 0 [some (.int x1), some (.int (M 15 8))] [] (jm_z M L G) (0, 0) (am_qi K) ∧ ∀ v σ', K v σ' → am_T X 2 195 [none, none, none] [(.int v), (.ref 15)] σ' (0, 0) Q)) ∧ (¬ 5 ≤ x2 → (vp_in x2 5 ∧ (vp_in x2 5 ∧ (vp_in x2 5 ∧ (vp_in x2 5 ∧ (∃ K : Int32 → am_S → Prop, am_T X 3 0 [some (.int (M 26 x2.toNatClampNeg)), some (.int (M 24 x2.toNatClampNeg))] [] (jm_z (wi_m M 15 8 ((M 15 8) + (M 24 x2.toNatClampNeg))) L G) (0, 0) (am_qi K) ∧ ∀ v σ', K v σ' → am_T X 2 179 [some (.ref 15), some (.int (x1 + (M 26 x2.toNatClampNeg))), some (.int x2)] [(.int v), (.int x2), (.ref 26)] σ' (0, 0) Q)))))))) : am_T X 2 130 [some (.ref 15), some (.int x1), some (.int x2)] [] (jm_z M L G) (0, 0) Q := am_T_go [(2, [true, true, false]), (36, [true, true, false]), (57, [true, true, true]), (130, [true, true, true]), (179, [true, true, true]), (195, [false, false, false])] 31 h
theorem rz_X0_addMonths_15_179 {X : Nat × (Nat → Int32)} {M : Nat → Nat → Int32} {L : Nat → Nat → Int64} {G : Nat → Nat → Option Nat} {Q : am_Q} {x1 : Int32} {x2 : Int32} {s1 : Int32} {s2 : Int32} (h : (vp_in s1 5 ∧ am_T X 2 130 [some (.ref 15), some (.int x1), some (.int (x2 + 1))] [] (jm_z (wi_m M 26 s1.toNatClampNeg s2) L G) (0, 0) Q)) : am_T X 2 179 [some (.ref 15), some (.int x1), some (.int x2)] [(.int s2), (.int s1), (.ref 26)] (jm_z M L G) (0, 0) Q := am_T_go [(2, [true, true, false]), (36, [true, true, false]), (57, [true, true, true]), (130, [true, true, true]), (179, [true, true, true]), (195, [false, false, false])] 4 h
theorem rz_X0_addMonths_15_195 {X : Nat × (Nat → Int32)} {M : Nat → Nat → Int32} {L : Nat → Nat → Int64} {G : Nat → Nat → Option Nat} {Q : am_Q} {s1 : Int32} (h : (Q (some none) (jm_z (wi_m M 15 9 s1) L G))) : am_T X 2 195 [none, none, none] [(.int s1), (.ref 15)] (jm_z M L G) (0, 0) Q := am_T_go [(2, [true, true, false]), (36, [true, true, false]), (57, [true, true, true]), (130, [true, true, true]), (179, [true, true, true]), (195, [false, false, false])] 2 h
theorem rz_X0_byMonths_0 {X : Nat × (Nat → Int32)} {M : Nat → Nat → Int32} {L : Nat → Nat → Int64} {G : Nat → Nat → Option Nat} {Q : am_Q} {x0 : Int32} {x1 : Int32} (h : ((x1 ≤ 0 → (Q (some (some (.int 0))) (jm_z M L G))) ∧ (¬ x1 ≤ 0 → (¬ x1 = 0 ∧ (Q (some (some (.int (x0 / x1)))) (jm_z M L G)))))) : am_T X 3 0 [some (.int x0), some (.int x1)] [] (jm_z M L G) (0, 0) Q := am_T_go [] 7 h
theorem rz_X0_findBearer_15_0 {X : Nat × (Nat → Int32)} {M : Nat → Nat → Int32} {L : Nat → Nat → Int64} {G : Nat → Nat → Option Nat} {Q : am_Q} {x1 : Int32} (h : am_T X 4 7 [some (.ref 15), some (.int x1), some (.int 0), none] [] (jm_z (wi_m M 15 10 (-1)) L G) (0, 0) Q) : am_T X 4 0 [some (.ref 15), some (.int x1), none, none] [] (jm_z M L G) (0, 0) Q := am_T_go [(7, [true, true, true, false])] 6 h
theorem rz_X0_findBearer_15_7 {X : Nat × (Nat → Int32)} {M : Nat → Nat → Int32} {L : Nat → Nat → Int64} {G : Nat → Nat → Option Nat} {Q : am_Q} {x1 : Int32} {x2 : Int32} (h : ((5 ≤ x2 → (Q (some none) (jm_z M L G))) ∧ (¬ 5 ≤ x2 → (vp_in x2 5 ∧ (((M 24 x2.toNatClampNeg) < (if 1 < x1 then x1 else 1) → (((0 : Int32) = 0 → am_T X 4 7 [some (.ref 15), some (.int x1), some (.int (x2 + 1)), none] [] (jm_z M L G) (0, 0) Q) ∧ (¬ (0 : Int32) = 0 → (((M 15 10) = (-1) → am_T X 4 7 [some (.ref 15), some (.int x1), some (.int (x2 + 1)), none] [] (jm_z (wi_m M 15 10 x2) L G) (0, 0) Q) ∧ (¬ (M 15 10) = (-1) → (vp_in x2 5 ∧ (vp_in (M 15 10) 5 ∧ (((M 24 x2.toNatClampNeg) ≤ (M 24 (M 15 10).toNatClampNeg) → am_T X 4 7 [some (.ref 15), some (.int x1), some (.int (x2 + 1)), none] [] (jm_z M L G) (0, 0) Q) ∧ (¬ (M 24 x2.toNatClampNeg) ≤ (M 24 (M 15 10).toNatClampNeg) → am_T X 4 7 [some (.ref 15), some (.int x1), some (.int (x2 + 1)), none] [] (jm_z (wi_m M 15 10 x2) L G) (0, 0) Q))))))))) ∧ (¬ (M 24 x2.toNatClampNeg) < (if 1 < x1 then x1 else 1) → (((1 : Int32) = 0 → am_T X 4 7 [some (.ref 15), some (.int x1), some (.int (x2 + 1)), none] [] (jm_z M L G) (0, 0) Q) ∧ (¬ (1 : Int32) = 0 → (((M 15 10) = (-1) → am_T X 4 7 [some (.ref 15), some (.int x1), some (.int (x2 + 1)), none] [] (jm_z (wi_m M 15 10 x2) L G) (0, 0) Q) ∧ (¬ (M 15 10) = (-1) → (vp_in x2 5 ∧ (vp_in (M 15 10) 5 ∧ (((M 24 x2.toNatClampNeg) ≤ (M 24 (M 15 10).toNatClampNeg) → am_T X 4 7 [some (.ref 15), some (.int x1), some (.int (x2 + 1)), none] [] (jm_z M L G) (0, 0) Q) ∧ (¬ (M 24 x2.toNatClampNeg) ≤ (M 24 (M 15 10).toNatClampNeg) → am_T X 4 7 [some (.ref 15), some (.int x1), some (.int (x2 + 1)), none] [] (jm_z (wi_m M 15 10 x2) L G) (0, 0) Q)))))))))))))) : am_T X 4 7 [some (.ref 15), some (.int x1), some (.int x2), none] [] (jm_z M L G) (0, 0) Q := am_T_go [(7, [true, true, true, false])] 36 h
theorem rz_X0_layBases_15_0 {X : Nat × (Nat → Int32)} {M : Nat → Nat → Int32} {L : Nat → Nat → Int64} {G : Nat → Nat → Option Nat} {Q : am_Q} {x1 : Int32} (h : am_T X 5 7 [some (.ref 15), some (.int x1), some (.int 0), none] [] (jm_z (wi_m M 15 11 0) L G) (0, 0) Q) : am_T X 5 0 [some (.ref 15), some (.int x1), none, none] [] (jm_z M L G) (0, 0) Q := am_T_go [(7, [true, true, true, false])] 6 h
theorem rz_X0_layBases_15_7 {X : Nat × (Nat → Int32)} {M : Nat → Nat → Int32} {L : Nat → Nat → Int64} {G : Nat → Nat → Option Nat} {Q : am_Q} {x1 : Int32} {x2 : Int32} (h : ((5 ≤ x2 → (((M 15 10) = (-1) → (Q (some none) (jm_z M L G))) ∧ (¬ (M 15 10) = (-1) → (vp_in (M 15 10) 5 ∧ (vp_in (M 15 10) 5 ∧ (Q (some none) (jm_z (wi_m M 27 (M 15 10).toNatClampNeg ((M 27 (M 15 10).toNatClampNeg) + (M 15 11))) L G))))))) ∧ (¬ 5 ≤ x2 → (vp_in x2 5 ∧ ((x1 ≤ (M 24 x2.toNatClampNeg) → (((0 : Int32) = 0 → (vp_in x2 5 ∧ (vp_in x2 5 ∧ (((0 : Int32) = 0 → am_T X 5 7 [some (.ref 15), some (.int x1), some (.int (x2 + 1)), none] [] (jm_z (wi_m (wi_m M 27 x2.toNatClampNeg (M 24 x2.toNatClampNeg)) 15 11 ((M 15 11) + 0)) L G) (0, 0) Q) ∧ (¬ (0 : Int32) = 0 → (((M 15 10) = (-1) → am_T X 5 7 [some (.ref 15), some (.int x1), some (.int (x2 + 1)), none] [] (jm_z (wi_m (wi_m M 27 x2.toNatClampNeg (M 24 x2.toNatClampNeg)) 15 11 ((M 15 11) + 0)) L G) (0, 0) Q) ∧ (¬ (M 15 10) = (-1) → (vp_in x2 5 ∧ am_T X 5 7 [some (.ref 15), some (.int x1), some (.int (x2 + 1)), none] [] (jm_z (wi_m (wi_m M 27 x2.toNatClampNeg (M 24 x2.toNatClampNeg)) 15 11 ((M 15 11) + (M 24 x2.toNatClampNeg))) L G) (0, 0) Q)))))))) ∧ (¬ (0 : Int32) = 0 → (vp_in x2 5 ∧ (((0 : Int32) = 0 → am_T X 5 7 [some (.ref 15), some (.int x1), some (.int (x2 + 1)), none] [] (jm_z (wi_m (wi_m M 27 x2.toNatClampNeg 0) 15 11 ((M 15 11) + 0)) L G) (0, 0) Q) ∧ (¬ (0 : Int32) = 0 → (((M 15 10) = (-1) → am_T X 5 7 [some (.ref 15), some (.int x1), some (.int (x2 + 1)), none] [] (jm_z (wi_m (wi_m M 27 x2.toNatClampNeg 0) 15 11 ((M 15 11) + 0)) L G) (0, 0) Q) ∧ (¬ (M 15 10) = (-1) → (vp_in x2 5 ∧ am_T X 5 7 [some (.ref 15), some (.int x1), some (.int (x2 + 1)), none] [] (jm_z (wi_m (wi_m M 27 x2.toNatClampNeg 0) 15 11 ((M 15 11) + (M 24 x2.toNatClampNeg))) L G) (0, 0) Q))))))))) ∧ (¬ x1 ≤ (M 24 x2.toNatClampNeg) → (((1 : Int32) = 0 → (vp_in x2 5 ∧ (vp_in x2 5 ∧ (((1 : Int32) = 0 → am_T X 5 7 [some (.ref 15), some (.int x1), some (.int (x2 + 1)), none] [] (jm_z (wi_m (wi_m M 27 x2.toNatClampNeg (M 24 x2.toNatClampNeg)) 15 11 ((M 15 11) + 0)) L G) (0, 0) Q) ∧ (¬ (1 : Int32) = 0 → (((M 15 10) = (-1) → am_T X 5 7 [some (.ref 15), some (.int x1), some (.int (x2 + 1)), none] [] (jm_z (wi_m (wi_m M 27 x2.toNatClampNeg (M 24 x2.toNatClampNeg)) 15 11 ((M 15 11) + 0)) L G) (0, 0) Q) ∧ (¬ (M 15 10) = (-1) → (vp_in x2 5 ∧ am_T X 5 7 [some (.ref 15), some (.int x1), some (.int (x2 + 1)), none] [] (jm_z (wi_m (wi_m M 27 x2.toNatClampNeg (M 24 x2.toNatClampNeg)) 15 11 ((M 15 11) + (M 24 x2.toNatClampNeg))) L G) (0, 0) Q)))))))) ∧ (¬ (1 : Int32) = 0 → (vp_in x2 5 ∧ (((1 : Int32) = 0 → am_T X 5 7 [some (.ref 15), some (.int x1), some (.int (x2 + 1)), none] [] (jm_z (wi_m (wi_m M 27 x2.toNatClampNeg 0) 15 11 ((M 15 11) + 0)) L G) (0, 0) Q) ∧ (¬ (1 : Int32) = 0 → (((M 15 10) = (-1) → am_T X 5 7 [some (.ref 15), some (.int x1), some (.int (x2 + 1)), none] [] (jm_z (wi_m (wi_m M 27 x2.toNatClampNeg 0) 15 11 ((M 15 11) + 0)) L G) (0, 0) Q) ∧ (¬ (M 15 10) = (-1) → (vp_in x2 5 ∧ am_T X 5 7 [some (.ref 15), some (.int x1), some (.int (x2 + 1)), none] [] (jm_z (wi_m (wi_m M 27 x2.toNatClampNeg 0) 15 11 ((M 15 11) + (M 24 x2.toNatClampNeg))) L G) (0, 0) Q)))))))))))))) : am_T X 5 7 [some (.ref 15), some (.int x1), some (.int x2), none] [] (jm_z M L G) (0, 0) Q := am_T_go [(7, [true, true, true, false])] 41 h
theorem rz_X0_reckonCountry_15_5_0 {X : Nat × (Nat → Int32)} {M : Nat → Nat → Int32} {L : Nat → Nat → Int64} {G : Nat → Nat → Option Nat} {Q : am_Q} {x2 : Int32} (h : (∃ K : Int32 → am_S → Prop, am_T X 29 0 [some (.ref 5), some (.int x2), some (.int 0)] [] (jm_z M L G) (0, 0) (am_qi K) ∧ ∀ v σ', K v σ' → am_T X 6 6 [some (.ref 15), some (.ref 5), some (.int x2), none, none, none] [(.int v)] σ' (0, 0) Q)) : am_T X 6 0 [some (.ref 15), some (.ref 5), some (.int x2), none, none, none] [] (jm_z M L G) (0, 0) Q := am_T_go [(6, [true, true, true, false, false, false]), (60, [true, true, true, true, false, false]), (112, [true, false, true, false, false, false]), (142, [false, false, false, false, false, false])] 4 h
theorem rz_X0_reckonCountry_15_5_6 {X : Nat × (Nat → Int32)} {M : Nat → Nat → Int32} {L : Nat → Nat → Int64} {G : Nat → Nat → Option Nat} {Q : am_Q} {x2 : Int32} {s0 : Int32} (h : (vp_in x2 5 ∧ (((M 24 x2.toNatClampNeg) < s0 → (((0 : Int32) = 0 → (vp_in x2 5 ∧ (((M 15 8) < s0 → (((0 : Int32) = 0 → (vp_in x2 5 ∧ (vp_in x2 5 ∧ (vp_in x2 5 ∧ (∃ K : Int32 → am_S → Prop, am_T X 3 0 [some (.int (((wi_m (wi_m M 28 x2.toNatClampNeg 0) 29 x2.toNatClampNeg 0) 29 x2.toNatClampNeg) * (M 27 x2.toNatClampNeg))), some (.int (M 15 8))] [] (jm_z (wi_m (wi_m M 28 x2.toNatClampNeg 0) 29 x2.toNatClampNeg 0) L G) (0, 0) (am_qi K) ∧ ∀ v σ', K v σ' → am_T X 6 142 [none, none, none, none, none, none] [(.int v), (.int x2), (.ref 30)] σ' (0, 0) Q))))) ∧ (¬ (0 : Int32) = 0 → (∃ K : Int32 → am_S → Prop, am_T X 7 0 [some (.ref 5), some (.int x2), some (.int (M 15 8)), some (.int (M 15 9)), none] [] (jm_z (wi_m M 28 x2.toNatClampNeg 0) L G) (0, 0) (am_qi K) ∧ ∀ v σ', K v σ' → am_T X 6 112 [some (.ref 15), none, some (.int x2), none, none, none] [(.int v), (.int x2), (.ref 29)] σ' (0, 0) Q)))) ∧ (¬ (M 15 8) < s0 → (vp_in x2 5 ∧ (((M 27 x2.toNatClampNeg) = 0 → (((0 : Int32) = 0 → (vp_in x2 5 ∧ (vp_in x2 5 ∧ (vp_in x2 5 ∧ (∃ K : Int32 → am_S → Prop, am_T X 3 0 [some (.int (((wi_m (wi_m M 28 x2.toNatClampNeg 0) 29 x2.toNatClampNeg 0) 29 x2.toNatClampNeg) * (M 27 x2.toNatClampNeg))), some (.int (M 15 8))] [] (jm_z (wi_m (wi_m M 28 x2.toNatClampNeg 0) 29 x2.toNatClampNeg 0) L G) (0, 0) (am_qi K) ∧ ∀ v σ', K v σ' → am_T X 6 142 [none, none, none, none, none, none] [(.int v), (.int x2), (.ref 30)] σ' (0, 0) Q))))) ∧ (¬ (0 : Int32) = 0 → (∃ K : Int32 → am_S → Prop, am_T X 7 0 [some (.ref 5), some (.int x2), some (.int (M 15 8)), some (.int (M 15 9)), none] [] (jm_z (wi_m M 28 x2.toNatClampNeg 0) L G) (0, 0) (am_qi K) ∧ ∀ v σ', K v σ' → am_T X 6 112 [some (.ref 15), none, some (.int x2), none, none, none] [(.int v), (.int x2), (.ref 29)] σ' (0, 0) Q)))) ∧ (¬ (M 27 x2.toNatClampNeg) = 0 → (((1 : Int32) = 0 → (vp_in x2 5 ∧ (vp_in x2 5 ∧ (vp_in x2 5 ∧ (∃ K : Int32 → am_S → Prop, am_T X 3 0 [some (.int (((wi_m (wi_m M 28 x2.toNatClampNeg 0) 29 x2.toNatClampNeg 0) 29 x2.toNatClampNeg) * (M 27 x2.toNatClampNeg))), some (.int (M 15 8))] [] (jm_z (wi_m (wi_m M 28 x2.toNatClampNeg 0) 29 x2.toNatClampNeg 0) L G) (0, 0) (am_qi K) ∧ ∀ v σ', K v σ' → am_T X 6 142 [none, none, none, none, none, none] [(.int v), (.int x2), (.ref 30)] σ' (0, 0) Q))))) ∧ (¬ (1 : Int32) = 0 → (∃ K : Int32 → am_S → Prop, am_T X 7 0 [some (.ref 5), some (.int x2), some (.int (M 15 8)), some (.int (M 15 9)), none] [] (jm_z (wi_m M 28 x2.toNatClampNeg 0) L G) (0, 0) (am_qi K) ∧ ∀ v σ', K v σ' → am_T X 6 112 [some (.ref 15), none, some (.int x2), none, none, none] [(.int v), (.int x2), (.ref 29)] σ' (0, 0) Q)))))))))) ∧ (¬ (0 : Int32) = 0 → (vp_in x2 5 ∧ (vp_in x2 5 ∧ (∃ K : Int32 → am_S → Prop, am_T X 7 0 [some (.ref 5), some (.int x2), some (.int (M 24 x2.toNatClampNeg)), some (.int (M 26 x2.toNatClampNeg)), none] [] (jm_z M L G) (0, 0) (am_qi K) ∧ ∀ v σ', K v σ' → am_T X 6 60 [some (.ref 15), some (.ref 5), some (.int x2), some (.int s0), none, none] [(.int v), (.int x2), (.ref 28)] σ' (0, 0) Q)))))) ∧ (¬ (M 24 x2.toNatClampNeg) < s0 → (vp_in x2 5 ∧ (((M 24 x2.toNatClampNeg) ≤ 0 → (((0 : Int32) = 0 → (vp_in x2 5 ∧ (((M 15 8) < s0 → (((0 : Int32) = 0 → (vp_in x2 5 ∧ (vp_in x2 5 ∧ (vp_in x2 5 ∧ (∃ K : Int32 → am_S → Prop, am_T X 3 0 [some (.int (((wi_m (wi_m M 28 x2.toNatClampNeg 0) 29 x2.toNatClampNeg 0) 29 x2.toNatClampNeg) * (M 27 x2.toNatClampNeg))), some (.int (M 15 8))] [] (jm_z (wi_m (wi_m M 28 x2.toNatClampNeg 0) 29 x2.toNatClampNeg 0) L G) (0, 0) (am_qi K) ∧ ∀ v σ', K v σ' → am_T X 6 142 [none, none, none, none, none, none] [(.int v), (.int x2), (.ref 30)] σ' (0, 0) Q))))) ∧ (¬ (0 : Int32) = 0 → (∃ K : Int32 → am_S → Prop, am_T X 7 0 [some (.ref 5), some (.int x2), some (.int (M 15 8)), some (.int (M 15 9)), none] [] (jm_z (wi_m M 28 x2.toNatClampNeg 0) L G) (0, 0) (am_qi K) ∧ ∀ v σ', K v σ' → am_T X 6 112 [some (.ref 15), none, some (.int x2), none, none, none] [(.int v), (.int x2), (.ref 29)] σ' (0, 0) Q)))) ∧ (¬ (M 15 8) < s0 → (vp_in x2 5 ∧ (((M 27 x2.toNatClampNeg) = 0 → (((0 : Int32) = 0 → (vp_in x2 5 ∧ (vp_in x2 5 ∧ (vp_in x2 5 ∧ (∃ K : Int32 → am_S → Prop, am_T X 3 0 [some (.int (((wi_m (wi_m M 28 x2.toNatClampNeg 0) 29 x2.toNatClampNeg 0) 29 x2.toNatClampNeg) * (M 27 x2.toNatClampNeg))), some (.int (M 15 8))] [] (jm_z (wi_m (wi_m M 28 x2.toNatClampNeg 0) 29 x2.toNatClampNeg 0) L G) (0, 0) (am_qi K) ∧ ∀ v σ', K v σ' → am_T X 6 142 [none, none, none, none, none, none] [(.int v), (.int x2), (.ref 30)] σ' (0, 0) Q))))) ∧ (¬ (0 : Int32) = 0 → (∃ K : Int32 → am_S → Prop, am_T X 7 0 [some (.ref 5), some (.int x2), some (.int (M 15 8)), some (.int (M 15 9)), none] [] (jm_z (wi_m M 28 x2.toNatClampNeg 0) L G) (0, 0) (am_qi K) ∧ ∀ v σ', K v σ' → am_T X 6 112 [some (.ref 15), none, some (.int x2), none, none, none] [(.int v), (.int x2), (.ref 29)] σ' (0, 0) Q)))) ∧ (¬ (M 27 x2.toNatClampNeg) = 0 → (((1 : Int32) = 0 → (vp_in x2 5 ∧ (vp_in x2 5 ∧ (vp_in x2 5 ∧ (∃ K : Int32 → am_S → Prop, am_T X 3 0 [some (.int (((wi_m (wi_m M 28 x2.toNatClampNeg 0) 29 x2.toNatClampNeg 0) 29 x2.toNatClampNeg) * (M 27 x2.toNatClampNeg))), some (.int (M 15 8))] [] (jm_z (wi_m (wi_m M 28 x2.toNatClampNeg 0) 29 x2.toNatClampNeg 0) L G) (0, 0) (am_qi K) ∧ ∀ v σ', K v σ' → am_T X 6 142 [none, none, none, none, none, none] [(.int v), (.int x2), (.ref 30)] σ' (0, 0) Q))))) ∧ (¬ (1 : Int32) = 0 → (∃ K : Int32 → am_S → Prop, am_T X 7 0 [some (.ref 5), some (.int x2), some (.int (M 15 8)), some (.int (M 15 9)), none] [] (jm_z (wi_m M 28 x2.toNatClampNeg 0) L G) (0, 0) (am_qi K) ∧ ∀ v σ', K v σ' → am_T X 6 112 [some (.ref 15), none, some (.int x2), none, none, none] [(.int v), (.int x2), (.ref 29)] σ' (0, 0) Q)))))))))) ∧ (¬ (0 : Int32) = 0 → (vp_in x2 5 ∧ (vp_in x2 5 ∧ (∃ K : Int32 → am_S → Prop, am_T X 7 0 [some (.ref 5), some (.int x2), some (.int (M 24 x2.toNatClampNeg)), some (.int (M 26 x2.toNatClampNeg)), none] [] (jm_z M L G) (0, 0) (am_qi K) ∧ ∀ v σ', K v σ' → am_T X 6 60 [some (.ref 15), some (.ref 5), some (.int x2), some (.int s0), none, none] [(.int v), (.int x2), (.ref 28)] σ' (0, 0) Q)))))) ∧ (¬ (M 24 x2.toNatClampNeg) ≤ 0 → (((1 : Int32) = 0 → (vp_in x2 5 ∧ (((M 15 8) < s0 → (((0 : Int32) = 0 → (vp_in x2 5 ∧ (vp_in x2 5 ∧ (vp_in x2 5 ∧ (∃ K : Int32 → am_S → Prop, am_T X 3 0 [some (.int (((wi_m (wi_m M 28 x2.toNatClampNeg 0) 29 x2.toNatClampNeg 0) 29 x2.toNatClampNeg) * (M 27 x2.toNatClampNeg))), some (.int (M 15 8))] [] (jm_z (wi_m (wi_m M 28 x2.toNatClampNeg 0) 29 x2.toNatClampNeg 0) L G) (0, 0) (am_qi K) ∧ ∀ v σ', K v σ' → am_T X 6 142 [none, none, none, none, none, none] [(.int v), (.int x2), (.ref 30)] σ' (0, 0) Q))))) ∧ (¬ (0 : Int32) = 0 → (∃ K : Int32 → am_S → Prop, am_T X 7 0 [some (.ref 5), some (.int x2), some (.int (M 15 8)), some (.int (M 15 9)), none] [] (jm_z (wi_m M 28 x2.toNatClampNeg 0) L G) (0, 0) (am_qi K) ∧ ∀ v σ', K v σ' → am_T X 6 112 [some (.ref 15), none, some (.int x2), none, none, none] [(.int v), (.int x2), (.ref 29)] σ' (0, 0) Q)))) ∧ (¬ (M 15 8) < s0 → (vp_in x2 5 ∧ (((M 27 x2.toNatClampNeg) = 0 → (((0 : Int32) = 0 → (vp_in x2 5 ∧ (vp_in x2 5 ∧ (vp_in x2 5 ∧ (∃ K : Int32 → am_S → Prop, am_T X 3 0 [some (.int (((wi_m (wi_m M 28 x2.toNatClampNeg 0) 29 x2.toNatClampNeg 0) 29 x2.toNatClampNeg) * (M 27 x2.toNatClampNeg))), some (.int (M 15 8))] [] (jm_z (wi_m (wi_m M 28 x2.toNatClampNeg 0) 29 x2.toNatClampNeg 0) L G) (0, 0) (am_qi K) ∧ ∀ v σ', K v σ' → am_T X 6 142 [none, none, none, none, none, none] [(.int v), (.int x2), (.ref 30)] σ' (0, 0) Q))))) ∧ (¬ (0 : Int32) = 0 → (∃ K : Int32 → am_S → Prop, am_T X 7 0 [some (.ref 5), some (.int x2), some (.int (M 15 8)), some (.int (M 15 9)), none] [] (jm_z (wi_m M 28 x2.toNatClampNeg 0) L G) (0, 0) (am_qi K) ∧ ∀ v σ', K v σ' → am_T X 6 112 [some (.ref 15), none, some (.int x2), none, none, none] [(.int v), (.int x2), (.ref 29)] σ' (0, 0) Q)))) ∧ (¬ (M 27 x2.toNatClampNeg) = 0 → (((1 : Int32) = 0 → (vp_in x2 5 ∧ (vp_in x2 5 ∧ (vp_in x2 5 ∧ (∃ K : Int32 → am_S → Prop, am_T X 3 0 [some (.int (((wi_m (wi_m M 28 x2.toNatClampNeg 0) 29 x2.toNatClampNeg 0) 29 x2.toNatClampNeg) * (M 27 x2.toNatClampNeg))), some (.int (M 15 8))] [] (jm_z (wi_m (wi_m M 28 x2.toNatClampNeg 0) 29 x2.toNatClampNeg 0) L G) (0, 0) (am_qi K) ∧ ∀ v σ', K v σ' → am_T X 6 142 [none, none, none, none, none, none] [(.int v), (.int x2), (.ref 30)] σ' (0, 0) Q))))) ∧ (¬ (1 : Int32) = 0 → (∃ K : Int32 → am_S → Prop, am_T X 7 0 [some (.ref 5), some (.int x2), some (.int (M 15 8)), some (.int (M 15 9)), none] [] (jm_z (wi_m M 28 x2.toNatClampNeg 0) L G) (0, 0) (am_qi K) ∧ ∀ v σ', K v σ' → am_T X 6 112 [some (.ref 15), none, some (.int x2), none, none, none] [(.int v), (.int x2), (.ref 29)] σ' (0, 0) Q)))))))))) ∧ (¬ (1 : Int32) = 0 → (vp_in x2 5 ∧ (vp_in x2 5 ∧ (∃ K : Int32 → am_S → Prop, am_T X 7 0 [some (.ref 5), some (.int x2), some (.int (M 24 x2.toNatClampNeg)), some (.int (M 26 x2.toNatClampNeg)), none] [] (jm_z M L G) (0, 0) (am_qi K) ∧ ∀ v σ', K v σ' → am_T X 6 60 [some (.ref 15), some (.ref 5), some (.int x2), some (.int s0), none, none] [(.int v), (.int x2), (.ref 28)] σ' (0, 0) Q)))))))))))) : am_T X 6 6 [some (.ref 15), some (.ref 5), some (.int x2), none, none, none] [(.int s0)] (jm_z M L G) (0, 0) Q := am_T_go [(6, [true, true, true, false, false, false]), (60, [true, true, true, true, false, false]), (112, [true, false, true, false, false, false]), (142, [false, false, false, false, false, false])] 56 h
theorem rz_X0_reckonCountry_15_5_60 {X : Nat × (Nat → Int32)} {M : Nat → Nat → Int32} {L : Nat → Nat → Int64} {G : Nat → Nat → Option Nat} {Q : am_Q} {x2 : Int32} {x3 : Int32} {s1 : Int32} {s2 : Int32} (h : (vp_in s1 5 ∧ (((M 15 8) < x3 → (((0 : Int32) = 0 → (vp_in x2 5 ∧ (vp_in x2 5 ∧ (vp_in x2 5 ∧ (∃ K : Int32 → am_S → Prop, am_T X 3 0 [some (.int (((wi_m (wi_m M 28 s1.toNatClampNeg s2) 29 x2.toNatClampNeg 0) 29 x2.toNatClampNeg) * (M 27 x2.toNatClampNeg))), some (.int (M 15 8))] [] (jm_z (wi_m (wi_m M 28 s1.toNatClampNeg s2) 29 x2.toNatClampNeg 0) L G) (0, 0) (am_qi K) ∧ ∀ v σ', K v σ' → am_T X 6 142 [none, none, none, none, none, none] [(.int v), (.int x2), (.ref 30)] σ' (0, 0) Q))))) ∧ (¬ (0 : Int32) = 0 → (∃ K : Int32 → am_S → Prop, am_T X 7 0 [some (.ref 5), some (.int x2), some (.int (M 15 8)), some (.int (M 15 9)), none] [] (jm_z (wi_m M 28 s1.toNatClampNeg s2) L G) (0, 0) (am_qi K) ∧ ∀ v σ', K v σ' → am_T X 6 112 [some (.ref 15), none, some (.int x2), none, none, none] [(.int v), (.int x2), (.ref 29)] σ' (0, 0) Q)))) ∧ (¬ (M 15 8) < x3 → (vp_in x2 5 ∧ (((M 27 x2.toNatClampNeg) = 0 → (((0 : Int32) = 0 → (vp_in x2 5 ∧ (vp_in x2 5 ∧ (vp_in x2 5 ∧ (∃ K : Int32 → am_S → Prop, am_T X 3 0 [some (.int (((wi_m (wi_m M 28 s1.toNatClampNeg s2) 29 x2.toNatClampNeg 0) 29 x2.toNatClampNeg) * (M 27 x2.toNatClampNeg))), some (.int (M 15 8))] [] (jm_z (wi_m (wi_m M 28 s1.toNatClampNeg s2) 29 x2.toNatClampNeg 0) L G) (0, 0) (am_qi K) ∧ ∀ v σ', K v σ' → am_T X 6 142 [none, none, none, none, none, none] [(.int v), (.int x2), (.ref 30)] σ' (0, 0) Q))))) ∧ (¬ (0 : Int32) = 0 → (∃ K : Int32 → am_S → Prop, am_T X 7 0 [some (.ref 5), some (.int x2), some (.int (M 15 8)), some (.int (M 15 9)), none] [] (jm_z (wi_m M 28 s1.toNatClampNeg s2) L G) (0, 0) (am_qi K) ∧ ∀ v σ', K v σ' → am_T X 6 112 [some (.ref 15), none, some (.int x2), none, none, none] [(.int v), (.int x2), (.ref 29)] σ' (0, 0) Q)))) ∧ (¬ (M 27 x2.toNatClampNeg) = 0 → (((1 : Int32) = 0 → (vp_in x2 5 ∧ (vp_in x2 5 ∧ (vp_in x2 5 ∧ (∃ K : Int32 → am_S → Prop, am_T X 3 0 [some (.int (((wi_m (wi_m M 28 s1.toNatClampNeg s2) 29 x2.toNatClampNeg 0) 29 x2.toNatClampNeg) * (M 27 x2.toNatClampNeg))), some (.int (M 15 8))] [] (jm_z (wi_m (wi_m M 28 s1.toNatClampNeg s2) 29 x2.toNatClampNeg 0) L G) (0, 0) (am_qi K) ∧ ∀ v σ', K v σ' → am_T X 6 142 [none, none, none, none, none, none] [(.int v), (.int x2), (.ref 30)] σ' (0, 0) Q))))) ∧ (¬ (1 : Int32) = 0 → (∃ K : Int32 → am_S → Prop, am_T X 7 0 [some (.ref 5), some (.int x2), some (.int (M 15 8)), some (.int (M 15 9)), none] [] (jm_z (wi_m M 28 s1.toNatClampNeg s2) L G) (0, 0) (am_qi K) ∧ ∀ v σ', K v σ' → am_T X 6 112 [some (.ref 15), none, some (.int x2), none, none, none] [(.int v), (.int x2), (.ref 29)] σ' (0, 0) Q)))))))))) : am_T X 6 60 [some (.ref 15), some (.ref 5), some (.int x2), some (.int x3), none, none] [(.int s2), (.int s1), (.ref 28)] (jm_z M L G) (0, 0) Q := am_T_go [(6, [true, true, true, false, false, false]), (60, [true, true, true, true, false, false]), (112, [true, false, true, false, false, false]), (142, [false, false, false, false, false, false])] 36 h
theorem rz_X0_reckonCountry_15_5_112 {X : Nat × (Nat → Int32)} {M : Nat → Nat → Int32} {L : Nat → Nat → Int64} {G : Nat → Nat → Option Nat} {Q : am_Q} {x2 : Int32} {s1 : Int32} {s2 : Int32} (h : (vp_in s1 5 ∧ (vp_in x2 5 ∧ (vp_in x2 5 ∧ (∃ K : Int32 → am_S → Prop, am_T X 3 0 [some (.int (((wi_m M 29 s1.toNatClampNeg s2) 29 x2.toNatClampNeg) * (M 27 x2.toNatClampNeg))), some (.int (M 15 8))] [] (jm_z (wi_m M 29 s1.toNatClampNeg s2) L G) (0, 0) (am_qi K) ∧ ∀ v σ', K v σ' → am_T X 6 142 [none, none, none, none, none, none] [(.int v), (.int x2), (.ref 30)] σ' (0, 0) Q))))) : am_T X 6 112 [some (.ref 15), none, some (.int x2), none, none, none] [(.int s2), (.int s1), (.ref 29)] (jm_z M L G) (0, 0) Q := am_T_go [(6, [true, true, true, false, false, false]), (60, [true, true, true, true, false, false]), (112, [true, false, true, false, false, false]), (142, [false, false, false, false, false, false])] 17 h
theorem rz_X0_reckonCountry_15_5_142 {X : Nat × (Nat → Int32)} {M : Nat → Nat → Int32} {L : Nat → Nat → Int64} {G : Nat → Nat → Option Nat} {Q : am_Q} {s1 : Int32} {s2 : Int32} (h : (vp_in s1 5 ∧ (Q (some none) (jm_z (wi_m M 30 s1.toNatClampNeg s2) L G)))) : am_T X 6 142 [none, none, none, none, none, none] [(.int s2), (.int s1), (.ref 30)] (jm_z M L G) (0, 0) Q := am_T_go [(6, [true, true, true, false, false, false]), (60, [true, true, true, true, false, false]), (112, [true, false, true, false, false, false]), (142, [false, false, false, false, false, false])] 2 h
theorem rz_X0_sum_5_0 {X : Nat × (Nat → Int32)} {M : Nat → Nat → Int32} {L : Nat → Nat → Int64} {G : Nat → Nat → Option Nat} {Q : am_Q} {x1 : Int32} {x2 : Int32} {x3 : Int32} (h : (∃ K : Int32 → am_S → Prop, am_T X 29 0 [some (.ref 5), some (.int x1), some (.int 1)] [] (jm_z M L G) (0, 0) (am_qi K) ∧ ∀ v σ', K v σ' → am_T X 7 7 [some (.ref 5), some (.int x1), some (.int x2), some (.int x3), none] [(.int v), (.int x2)] σ' (0, 0) Q)) : am_T X 7 0 [some (.ref 5), some (.int x1), some (.int x2), some (.int x3), none] [] (jm_z M L G) (0, 0) Q := am_T_go [(7, [true, true, true, true, false]), (19, [false, false, false, true, false])] 5 h
theorem rz_X0_sum_5_7 {X : Nat × (Nat → Int32)} {M : Nat → Nat → Int32} {L : Nat → Nat → Int64} {G : Nat → Nat → Option Nat} {Q : am_Q} {x1 : Int32} {x2 : Int32} {x3 : Int32} {s0 : Int32} {s1 : Int32} (h : (∃ K : Int32 → am_S → Prop, am_T X 29 0 [some (.ref 5), some (.int x1), some (.int 2)] [] (jm_z M L G) (0, 0) (am_qi K) ∧ ∀ v σ', K v σ' → am_T X 7 19 [none, none, none, some (.int x3), none] [(.int v), (.int x2), (.int (s0 * s1))] σ' (0, 0) Q)) : am_T X 7 7 [some (.ref 5), some (.int x1), some (.int x2), some (.int x3), none] [(.int s1), (.int s0)] (jm_z M L G) (0, 0) Q := am_T_go [(7, [true, true, true, true, false]), (19, [false, false, false, true, false])] 8 h
theorem rz_X0_sum_5_19 {X : Nat × (Nat → Int32)} {M : Nat → Nat → Int32} {L : Nat → Nat → Int64} {G : Nat → Nat → Option Nat} {Q : am_Q} {x3 : Int32} {s0 : Int32} {s1 : Int32} {s2 : Int32} (h : (¬ (10000 : Int32) = 0 ∧ (Q (some (some (.int (s0 + (((s1 * s2) * x3) / 10000))))) (jm_z M L G)))) : am_T X 7 19 [none, none, none, some (.int x3), none] [(.int s2), (.int s1), (.int s0)] (jm_z M L G) (0, 0) Q := am_T_go [(7, [true, true, true, true, false]), (19, [false, false, false, true, false])] 7 h
theorem rz_X0_paysOf_15_0 {X : Nat × (Nat → Int32)} {M : Nat → Nat → Int32} {L : Nat → Nat → Int64} {G : Nat → Nat → Option Nat} {Q : am_Q} {x1 : Int32} (h : (vp_in x1 5 ∧ (vp_in x1 5 ∧ (Q (some (some (.int (if (M 28 x1.toNatClampNeg) < (M 30 x1.toNatClampNeg) then (M 30 x1.toNatClampNeg) else (M 28 x1.toNatClampNeg))))) (jm_z M L G))))) : am_T X 8 0 [some (.ref 15), some (.int x1)] [] (jm_z M L G) (0, 0) Q := am_T_go [] 10 h
theorem rz_X1_reckon_16_5_0 {X : Nat × (Nat → Int32)} {M : Nat → Nat → Int32} {L : Nat → Nat → Int64} {G : Nat → Nat → Option Nat} {Q : am_Q} (h : (∃ K : am_S → Prop, am_T X 11 0 [some (.ref 16), some (.ref 5), none, none, none, none] [] (jm_z M L G) (0, 0) (am_qv K) ∧ ∀ σ', K σ' → am_T X 10 5 [some (.ref 16), some (.ref 5)] [] σ' (0, 0) Q)) : am_T X 10 0 [some (.ref 16), some (.ref 5)] [] (jm_z M L G) (0, 0) Q := am_T_go [(5, [true, true]), (10, [true, true]), (14, [true, true]), (22, [false, false])] 3 h
theorem rz_X1_reckon_16_5_5 {X : Nat × (Nat → Int32)} {M : Nat → Nat → Int32} {L : Nat → Nat → Int64} {G : Nat → Nat → Option Nat} {Q : am_Q} (h : (∃ K : am_S → Prop, am_T X 13 0 [some (.ref 16), some (.ref 5), none, none] [] (jm_z M L G) (0, 0) (am_qv K) ∧ ∀ σ', K σ' → am_T X 10 10 [some (.ref 16), some (.ref 5)] [] σ' (0, 0) Q)) : am_T X 10 5 [some (.ref 16), some (.ref 5)] [] (jm_z M L G) (0, 0) Q := am_T_go [(5, [true, true]), (10, [true, true]), (14, [true, true]), (22, [false, false])] 3 h
theorem rz_X1_reckon_16_5_10 {X : Nat × (Nat → Int32)} {M : Nat → Nat → Int32} {L : Nat → Nat → Int64} {G : Nat → Nat → Option Nat} {Q : am_Q} (h : (∃ K : am_S → Prop, am_T X 14 0 [some (.ref 16), none, none] [] (jm_z M L G) (0, 0) (am_qv K) ∧ ∀ σ', K σ' → am_T X 10 14 [some (.ref 16), some (.ref 5)] [] σ' (0, 0) Q)) : am_T X 10 10 [some (.ref 16), some (.ref 5)] [] (jm_z M L G) (0, 0) Q := am_T_go [(5, [true, true]), (10, [true, true]), (14, [true, true]), (22, [false, false])] 2 h
theorem rz_X1_reckon_16_5_14 {X : Nat × (Nat → Int32)} {M : Nat → Nat → Int32} {L : Nat → Nat → Int64} {G : Nat → Nat → Option Nat} {Q : am_Q} (h : (∃ K : am_S → Prop, am_T X 15 0 [some (.ref 16), some (.int (M 5 5)), none, none, none] [] (jm_z M L G) (0, 0) (am_qv K) ∧ ∀ σ', K σ' → am_T X 10 22 [none, none] [] σ' (0, 0) Q)) : am_T X 10 14 [some (.ref 16), some (.ref 5)] [] (jm_z M L G) (0, 0) Q := am_T_go [(5, [true, true]), (10, [true, true]), (14, [true, true]), (22, [false, false])] 4 h
theorem rz_X1_reckon_16_5_22 {X : Nat × (Nat → Int32)} {M : Nat → Nat → Int32} {L : Nat → Nat → Int64} {G : Nat → Nat → Option Nat} {Q : am_Q} (h : (Q (some none) (jm_z M L G))) : am_T X 10 22 [none, none] [] (jm_z M L G) (0, 0) Q := am_T_go [(5, [true, true]), (10, [true, true]), (14, [true, true]), (22, [false, false])] 1 h
theorem rz_X1_cover_16_5_0 {X : Nat × (Nat → Int32)} {M : Nat → Nat → Int32} {L : Nat → Nat → Int64} {G : Nat → Nat → Option Nat} {Q : am_Q} (h : am_T X 11 2 [some (.ref 16), some (.ref 5), some (.int 0), none, none, none] [] (jm_z M L G) (0, 0) Q) : am_T X 11 0 [some (.ref 16), some (.ref 5), none, none, none, none] [] (jm_z M L G) (0, 0) Q := am_T_go [(2, [true, true, true, false, false, false]), (32, [true, true, true, false, false, false]), (45, [true, true, true, false, false, false]), (52, [true, true, true, true, false, false]), (60, [true, true, true, true, true, false]), (62, [true, true, true, true, true, true])] 3 h
theorem rz_X1_cover_16_5_2 {X : Nat × (Nat → Int32)} {M : Nat → Nat → Int32} {L : Nat → Nat → Int64} {G : Nat → Nat → Option Nat} {Q : am_Q} {x2 : Int32} (h : ((360 ≤ x2 → am_T X 11 32 [some (.ref 16), some (.ref 5), some (.int 0), none, none, none] [] (jm_z M L G) (0, 0) Q) ∧ (¬ 360 ≤ x2 → (vp_in x2 360 ∧ (vp_in x2 360 ∧ am_T X 11 2 [some (.ref 16), some (.ref 5), some (.int (x2 + 1)), none, none, none] [] (jm_z (wi_m (wi_m M 17 x2.toNatClampNeg 1073741824) 18 x2.toNatClampNeg 0) L G) (0, 0) Q))))) : am_T X 11 2 [some (.ref 16), some (.ref 5), some (.int x2), none, none, none] [] (jm_z M L G) (0, 0) Q := am_T_go [(2, [true, true, true, false, false, false]), (32, [true, true, true, false, false, false]), (45, [true, true, true, false, false, false]), (52, [true, true, true, true, false, false]), (60, [true, true, true, true, true, false]), (62, [true, true, true, true, true, true])] 16 h
theorem rz_X1_cover_16_5_32 {X : Nat × (Nat → Int32)} {M : Nat → Nat → Int32} {L : Nat → Nat → Int64} {G : Nat → Nat → Option Nat} {Q : am_Q} {x2 : Int32} (h : (((M 5 0) ≤ x2 → (Q (some none) (jm_z M L G))) ∧ (¬ (M 5 0) ≤ x2 → (∃ K : Int32 → am_S → Prop, am_T X 12 0 [some (.ref 5), some (.int x2), none] [] (jm_z M L G) (0, 0) (am_qi K) ∧ ∀ v σ', K v σ' → am_T X 11 45 [some (.ref 16), some (.ref 5), some (.int x2), none, none, none] [(.int v)] σ' (0, 0) Q)))) : am_T X 11 32 [some (.ref 16), some (.ref 5), some (.int x2), none, none, none] [] (jm_z M L G) (0, 0) Q := am_T_go [(2, [true, true, true, false, false, false]), (32, [true, true, true, false, false, false]), (45, [true, true, true, false, false, false]), (52, [true, true, true, true, false, false]), (60, [true, true, true, true, true, false]), (62, [true, true, true, true, true, true])] 7 h
theorem rz_X1_cover_16_5_45 {X : Nat × (Nat → Int32)} {M : Nat → Nat → Int32} {L : Nat → Nat → Int64} {G : Nat → Nat → Option Nat} {Q : am_Q} {x2 : Int32} {s0 : Int32} (h : (∃ K : Int32 → am_S → Prop, am_T X 28 0 [some (.ref 5), some (.int x2), some (.int 3)] [] (jm_z M L G) (0, 0) (am_qi K) ∧ ∀ v σ', K v σ' → am_T X 11 52 [some (.ref 16), some (.ref 5), some (.int x2), some (.int s0), none, none] [(.int v)] σ' (0, 0) Q)) : am_T X 11 45 [some (.ref 16), some (.ref 5), some (.int x2), none, none, none] [(.int s0)] (jm_z M L G) (0, 0) Q := am_T_go [(2, [true, true, true, false, false, false]), (32, [true, true, true, false, false, false]), (45, [true, true, true, false, false, false]), (52, [true, true, true, true, false, false]), (60, [true, true, true, true, true, false]), (62, [true, true, true, true, true, true])] 5 h
theorem rz_X1_cover_16_5_52 {X : Nat × (Nat → Int32)} {M : Nat → Nat → Int32} {L : Nat → Nat → Int64} {G : Nat → Nat → Option Nat} {Q : am_Q} {x2 : Int32} {x3 : Int32} {s0 : Int32} (h : (∃ K : Int32 → am_S → Prop, am_T X 28 0 [some (.ref 5), some (.int x2), some (.int 2)] [] (jm_z M L G) (0, 0) (am_qi K) ∧ ∀ v σ', K v σ' → am_T X 11 60 [some (.ref 16), some (.ref 5), some (.int x2), some (.int x3), some (.int s0), none] [(.int v)] σ' (0, 0) Q)) : am_T X 11 52 [some (.ref 16), some (.ref 5), some (.int x2), some (.int x3), none, none] [(.int s0)] (jm_z M L G) (0, 0) Q := am_T_go [(2, [true, true, true, false, false, false]), (32, [true, true, true, false, false, false]), (45, [true, true, true, false, false, false]), (52, [true, true, true, true, false, false]), (60, [true, true, true, true, true, false]), (62, [true, true, true, true, true, true])] 5 h
theorem rz_X1_cover_16_5_60 {X : Nat × (Nat → Int32)} {M : Nat → Nat → Int32} {L : Nat → Nat → Int64} {G : Nat → Nat → Option Nat} {Q : am_Q} {x2 : Int32} {x3 : Int32} {x4 : Int32} {s0 : Int32} (h : am_T X 11 62 [some (.ref 16), some (.ref 5), some (.int x2), some (.int x3), some (.int x4), some (.int s0)] [] (jm_z M L G) (0, 0) Q) : am_T X 11 60 [some (.ref 16), some (.ref 5), some (.int x2), some (.int x3), some (.int x4), none] [(.int s0)] (jm_z M L G) (0, 0) Q := am_T_go [(2, [true, true, true, false, false, false]), (32, [true, true, true, false, false, false]), (45, [true, true, true, false, false, false]), (52, [true, true, true, true, false, false]), (60, [true, true, true, true, true, false]), (62, [true, true, true, true, true, true])] 2 h
theorem rz_X1_cover_16_5_62 {X : Nat × (Nat → Int32)} {M : Nat → Nat → Int32} {L : Nat → Nat → Int64} {G : Nat → Nat → Option Nat} {Q : am_Q} {x2 : Int32} {x3 : Int32} {x4 : Int32} {x5 : Int32} (h : ((x4 < x5 → am_T X 11 32 [some (.ref 16), some (.ref 5), some (.int (x2 + 1)), none, none, none] [] (jm_z M L G) (0, 0) Q) ∧ (¬ x4 < x5 → (vp_in x5 360 ∧ (vp_in x5 360 ∧ (vp_in x5 360 ∧ (vp_in x5 360 ∧ am_T X 11 62 [some (.ref 16), some (.ref 5), some (.int x2), some (.int x3), some (.int x4), some (.int (x5 + 1))] [] (jm_z (wi_m (wi_m M 18 x5.toNatClampNeg ((M 18 x5.toNatClampNeg) + 1)) 17 x5.toNatClampNeg (if x3 < (M 17 x5.toNatClampNeg) then x3 else (M 17 x5.toNatClampNeg))) L G) (0, 0) Q))))))) : am_T X 11 62 [some (.ref 16), some (.ref 5), some (.int x2), some (.int x3), some (.int x4), some (.int x5)] [] (jm_z M L G) (0, 0) Q := am_T_go [(2, [true, true, true, false, false, false]), (32, [true, true, true, false, false, false]), (45, [true, true, true, false, false, false]), (52, [true, true, true, true, false, false]), (60, [true, true, true, true, true, false]), (62, [true, true, true, true, true, true])] 24 h
theorem rz_X1_standingOf_5_0 {X : Nat × (Nat → Int32)} {M : Nat → Nat → Int32} {L : Nat → Nat → Int64} {G : Nat → Nat → Option Nat} {Q : am_Q} {x1 : Int32} (h : (∃ K : Int32 → am_S → Prop, am_T X 28 0 [some (.ref 5), some (.int x1), some (.int 1)] [] (jm_z M L G) (0, 0) (am_qi K) ∧ ∀ v σ', K v σ' → am_T X 12 7 [some (.ref 5), some (.int x1), none] [(.int v), (.ref 5)] σ' (0, 0) Q)) : am_T X 12 0 [some (.ref 5), some (.int x1), none] [] (jm_z M L G) (0, 0) Q := am_T_go [(7, [true, true, false]), (10, [true, true, false]), (26, [true, true, false]), (37, [false, true, false])] 5 h
theorem rz_X1_standingOf_5_7 {X : Nat × (Nat → Int32)} {M : Nat → Nat → Int32} {L : Nat → Nat → Int64} {G : Nat → Nat → Option Nat} {Q : am_Q} {x1 : Int32} {s1 : Int32} (h : (∃ K : Int32 → am_S → Prop, am_T X 42 0 [some (.ref 5), some (.int s1), none] [] (jm_z M L G) (0, 0) (am_qi K) ∧ ∀ v σ', K v σ' → am_T X 12 10 [some (.ref 5), some (.int x1), none] [(.int v)] σ' (0, 0) Q)) : am_T X 12 7 [some (.ref 5), some (.int x1), none] [(.int s1), (.ref 5)] (jm_z M L G) (0, 0) Q := am_T_go [(7, [true, true, false]), (10, [true, true, false]), (26, [true, true, false]), (37, [false, true, false])] 1 h
theorem rz_X1_standingOf_5_10 {X : Nat × (Nat → Int32)} {M : Nat → Nat → Int32} {L : Nat → Nat → Int64} {G : Nat → Nat → Option Nat} {Q : am_Q} {x1 : Int32} {s0 : Int32} (h : (∃ K : Int32 → am_S → Prop, am_T X 28 0 [some (.ref 5), some (.int x1), some (.int 4)] [] (jm_z M L G) (0, 0) (am_qi K) ∧ ∀ v σ', K v σ' → am_T X 12 26 [some (.ref 5), some (.int x1), none] [(.int v), (.int ((s0 * 1000) + 999))] σ' (0, 0) Q)) : am_T X 12 10 [some (.ref 5), some (.int x1), none] [(.int s0)] (jm_z M L G) (0, 0) Q := am_T_go [(7, [true, true, false]), (10, [true, true, false]), (26, [true, true, false]), (37, [false, true, false])] 10 h
theorem rz_X1_standingOf_5_26 {X : Nat × (Nat → Int32)} {M : Nat → Nat → Int32} {L : Nat → Nat → Int64} {G : Nat → Nat → Option Nat} {Q : am_Q} {x1 : Int32} {s0 : Int32} {s1 : Int32} (h : (∃ K : Int32 → am_S → Prop, am_T X 28 0 [some (.ref 5), some (.int x1), some (.int 0)] [] (jm_z M L G) (0, 0) (am_qi K) ∧ ∀ v σ', K v σ' → am_T X 12 37 [none, some (.int x1), none] [(.int v), (.int ((s0 - s1) * 5))] σ' (0, 0) Q)) : am_T X 12 26 [some (.ref 5), some (.int x1), none] [(.int s1), (.int s0)] (jm_z M L G) (0, 0) Q := am_T_go [(7, [true, true, false]), (10, [true, true, false]), (26, [true, true, false]), (37, [false, true, false])] 9 h
theorem rz_X1_standingOf_5_37 {X : Nat × (Nat → Int32)} {M : Nat → Nat → Int32} {L : Nat → Nat → Int64} {G : Nat → Nat → Option Nat} {Q : am_Q} {x1 : Int32} {s0 : Int32} {s1 : Int32} (h : (Q (some (some (.int (((s0 + s1) * 64) + x1)))) (jm_z M L G))) : am_T X 12 37 [none, some (.int x1), none] [(.int s1), (.int s0)] (jm_z M L G) (0, 0) Q := am_T_go [(7, [true, true, false]), (10, [true, true, false]), (26, [true, true, false]), (37, [false, true, false])] 8 h
theorem rz_X1_countCovered_16_5_0 {X : Nat × (Nat → Int32)} {M : Nat → Nat → Int32} {L : Nat → Nat → Int64} {G : Nat → Nat → Option Nat} {Q : am_Q} (h : am_T X 13 2 [some (.ref 16), some (.ref 5), some (.int 0), none] [] (jm_z M L G) (0, 0) Q) : am_T X 13 0 [some (.ref 16), some (.ref 5), none, none] [] (jm_z M L G) (0, 0) Q := am_T_go [(2, [true, true, true, false]), (72, [true, true, true, true]), (84, [true, true, true, false])] 3 h
theorem rz_X1_countCovered_16_5_2 {X : Nat × (Nat → Int32)} {M : Nat → Nat → Int32} {L : Nat → Nat → Int64} {G : Nat → Nat → Option Nat} {Q : am_Q} {x2 : Int32} (h : ((360 ≤ x2 → (Q (some none) (jm_z M L G))) ∧ (¬ 360 ≤ x2 → (vp_in x2 360 ∧ ((¬ (M 17 x2.toNatClampNeg) = 1073741824 → (vp_in x2 360 ∧ (¬ (64 : Int32) = 0 ∧ (vp_in x2 360 ∧ (∃ K : Int32 → am_S → Prop, am_T X 28 0 [some (.ref 5), some (.int (am_rem (M 17 x2.toNatClampNeg) 64)), some (.int 0)] [] (jm_z (wi_m M 19 x2.toNatClampNeg (am_rem (M 17 x2.toNatClampNeg) 64)) L G) (0, 0) (am_qi K) ∧ ∀ v σ', K v σ' → am_T X 13 72 [some (.ref 16), some (.ref 5), some (.int x2), some (.int (am_rem (M 17 x2.toNatClampNeg) 64))] [(.int v), (.int x2), (.ref 20)] σ' (0, 0) Q))))) ∧ ((M 17 x2.toNatClampNeg) = 1073741824 → (vp_in x2 360 ∧ (vp_in x2 360 ∧ (vp_in x2 360 ∧ am_T X 13 2 [some (.ref 16), some (.ref 5), some (.int (x2 + 1)), none] [] (jm_z (wi_m (wi_m (wi_m M 19 x2.toNatClampNeg (-1)) 20 x2.toNatClampNeg (-1)) 21 x2.toNatClampNeg 0) L G) (0, 0) Q))))))))) : am_T X 13 2 [some (.ref 16), some (.ref 5), some (.int x2), none] [] (jm_z M L G) (0, 0) Q := am_T_go [(2, [true, true, true, false]), (72, [true, true, true, true]), (84, [true, true, true, false])] 28 h
theorem rz_X1_countCovered_16_5_72 {X : Nat × (Nat → Int32)} {M : Nat → Nat → Int32} {L : Nat → Nat → Int64} {G : Nat → Nat → Option Nat} {Q : am_Q} {x2 : Int32} {x3 : Int32} {s1 : Int32} {s2 : Int32} (h : (vp_in s1 360 ∧ (∃ K : Int32 → am_S → Prop, am_T X 28 0 [some (.ref 5), some (.int x3), some (.int 4)] [] (jm_z (wi_m M 20 s1.toNatClampNeg s2) L G) (0, 0) (am_qi K) ∧ ∀ v σ', K v σ' → am_T X 13 84 [some (.ref 16), some (.ref 5), some (.int x2), none] [(.int v), (.int x2), (.ref 21)] σ' (0, 0) Q))) : am_T X 13 72 [some (.ref 16), some (.ref 5), some (.int x2), some (.int x3)] [(.int s2), (.int s1), (.ref 20)] (jm_z M L G) (0, 0) Q := am_T_go [(2, [true, true, true, false]), (72, [true, true, true, true]), (84, [true, true, true, false])] 8 h
theorem rz_X1_countCovered_16_5_84 {X : Nat × (Nat → Int32)} {M : Nat → Nat → Int32} {L : Nat → Nat → Int64} {G : Nat → Nat → Option Nat} {Q : am_Q} {x2 : Int32} {s1 : Int32} {s2 : Int32} (h : (¬ (12 : Int32) = 0 ∧ (vp_in (x2 / 12) 30 ∧ (¬ (100 : Int32) = 0 ∧ (vp_in s1 360 ∧ am_T X 13 2 [some (.ref 16), some (.ref 5), some (.int (x2 + 1)), none] [] (jm_z (wi_m M 21 s1.toNatClampNeg ((s2 * (M 8 (x2 / 12).toNatClampNeg)) / 100)) L G) (0, 0) Q))))) : am_T X 13 84 [some (.ref 16), some (.ref 5), some (.int x2), none] [(.int s2), (.int s1), (.ref 21)] (jm_z M L G) (0, 0) Q := am_T_go [(2, [true, true, true, false]), (72, [true, true, true, true]), (84, [true, true, true, false])] 13 h
theorem rz_X1_findGaps_16_0 {X : Nat × (Nat → Int32)} {M : Nat → Nat → Int32} {L : Nat → Nat → Int64} {G : Nat → Nat → Option Nat} {Q : am_Q} (h : am_T X 14 9 [some (.ref 16), some (.int (-1)), some (.int 0)] [] (jm_z (wi_m M 16 7 0) L G) (0, 0) Q) : am_T X 14 0 [some (.ref 16), none, none] [] (jm_z M L G) (0, 0) Q := am_T_go [(9, [true, true, true])] 8 h
theorem rz_X1_findGaps_16_9 {X : Nat × (Nat → Int32)} {M : Nat → Nat → Int32} {L : Nat → Nat → Int64} {G : Nat → Nat → Option Nat} {Q : am_Q} {x1 : Int32} {x2 : Int32} (h : ((360 ≤ x2 → (Q (some none) (jm_z M L G))) ∧ (¬ 360 ≤ x2 → (vp_in x2 360 ∧ ((¬ (M 19 x2.toNatClampNeg) = (-1) → ((x1 = (-1) → am_T X 14 9 [some (.ref 16), some (.int x2), some (.int (x2 + 1))] [] (jm_z M L G) (0, 0) Q) ∧ (¬ x1 = (-1) → (((x2 - x1) ≤ 1 → am_T X 14 9 [some (.ref 16), some (.int x2), some (.int (x2 + 1))] [] (jm_z M L G) (0, 0) Q) ∧ (¬ (x2 - x1) ≤ 1 → (((nI 44) ≤ (M 16 7) → am_T X 14 9 [some (.ref 16), some (.int x2), some (.int (x2 + 1))] [] (jm_z M L G) (0, 0) Q) ∧ (¬ (nI 44) ≤ (M 16 7) → (vp_in (M 16 7) 44 ∧ (vp_in (M 16 7) 44 ∧ am_T X 14 9 [some (.ref 16), some (.int x2), some (.int (x2 + 1))] [] (jm_z (wi_m (wi_m (wi_m M 22 (M 16 7).toNatClampNeg (x1 + 1)) 23 (M 16 7).toNatClampNeg ((x2 - x1) - 1)) 16 7 ((M 16 7) + 1)) L G) (0, 0) Q))))))))) ∧ ((M 19 x2.toNatClampNeg) = (-1) → am_T X 14 9 [some (.ref 16), some (.int x1), some (.int (x2 + 1))] [] (jm_z M L G) (0, 0) Q)))))) : am_T X 14 9 [some (.ref 16), some (.int x1), some (.int x2)] [] (jm_z M L G) (0, 0) Q := am_T_go [(9, [true, true, true])] 52 h
theorem rz_X1_creditGaps_16_0 {X : Nat × (Nat → Int32)} {M : Nat → Nat → Int32} {L : Nat → Nat → Int64} {G : Nat → Nat → Option Nat} {Q : am_Q} {x1 : Int32} (h : am_T X 15 2 [some (.ref 16), some (.int x1), some (.int 0), none, none] [] (jm_z M L G) (0, 0) Q) : am_T X 15 0 [some (.ref 16), some (.int x1), none, none, none] [] (jm_z M L G) (0, 0) Q := am_T_go [(2, [true, true, true, false, false]), (38, [true, true, true, true, true])] 3 h
theorem rz_X1_creditGaps_16_2 {X : Nat × (Nat → Int32)} {M : Nat → Nat → Int32} {L : Nat → Nat → Int64} {G : Nat → Nat → Option Nat} {Q : am_Q} {x1 : Int32} {x2 : Int32} (h : (((M 16 7) ≤ x2 → (Q (some none) (jm_z M L G))) ∧ (¬ (M 16 7) ≤ x2 → (vp_in x2 44 ∧ (vp_in x2 44 ∧ ((x1 < (M 23 x2.toNatClampNeg) → am_T X 15 2 [some (.ref 16), some (.int x1), some (.int (x2 + 1)), none, none] [] (jm_z M L G) (0, 0) Q) ∧ (¬ x1 < (M 23 x2.toNatClampNeg) → ((1 ≤ (M 22 x2.toNatClampNeg) → am_T X 15 38 [some (.ref 16), some (.int x1), some (.int x2), some (.int (M 22 x2.toNatClampNeg)), some (.int (M 22 x2.toNatClampNeg))] [] (jm_z M L G) (0, 0) Q) ∧ (¬ 1 ≤ (M 22 x2.toNatClampNeg) → am_T X 15 2 [some (.ref 16), some (.int x1), some (.int (x2 + 1)), none, none] [] (jm_z M L G) (0, 0) Q))))))))) : am_T X 15 2 [some (.ref 16), some (.int x1), some (.int x2), none, none] [] (jm_z M L G) (0, 0) Q := am_T_go [(2, [true, true, true, false, false]), (38, [true, true, true, true, true])] 22 h
theorem rz_X1_creditGaps_16_38 {X : Nat × (Nat → Int32)} {M : Nat → Nat → Int32} {L : Nat → Nat → Int64} {G : Nat → Nat → Option Nat} {Q : am_Q} {x1 : Int32} {x2 : Int32} {x3 : Int32} {x4 : Int32} (h : (vp_in x2 44 ∧ (((x3 + (M 23 x2.toNatClampNeg)) ≤ x4 → am_T X 15 2 [some (.ref 16), some (.int x1), some (.int (x2 + 1)), none, none] [] (jm_z M L G) (0, 0) Q) ∧ (¬ (x3 + (M 23 x2.toNatClampNeg)) ≤ x4 → (vp_in (x3 - 1) 360 ∧ (vp_in x4 360 ∧ (vp_in (x3 - 1) 360 ∧ (¬ (2 : Int32) = 0 ∧ (vp_in x4 360 ∧ am_T X 15 38 [some (.ref 16), some (.int x1), some (.int x2), some (.int x3), some (.int (x4 + 1))] [] (jm_z (wi_m (wi_m M 20 x4.toNatClampNeg (M 20 (x3 - 1).toNatClampNeg)) 21 x4.toNatClampNeg ((M 21 (x3 - 1).toNatClampNeg) / 2)) L G) (0, 0) Q))))))))) : am_T X 15 38 [some (.ref 16), some (.int x1), some (.int x2), some (.int x3), some (.int x4)] [] (jm_z M L G) (0, 0) Q := am_T_go [(2, [true, true, true, false, false]), (38, [true, true, true, true, true])] 33 h
theorem rz_X3_numberOf_5_0 {X : Nat × (Nat → Int32)} {M : Nat → Nat → Int32} {L : Nat → Nat → Int64} {G : Nat → Nat → Option Nat} {Q : am_Q} {x1 : Int32} {x2 : Int32} (h : (vp_in ((x1 * 5) + x2) 100 ∧ (Q (some (some (.int (M 9 ((x1 * 5) + x2).toNatClampNeg)))) (jm_z M L G)))) : am_T X 28 0 [some (.ref 5), some (.int x1), some (.int x2)] [] (jm_z M L G) (0, 0) Q := am_T_go [] 9 h
theorem rz_X3_lawOf_5_0 {X : Nat × (Nat → Int32)} {M : Nat → Nat → Int32} {L : Nat → Nat → Int64} {G : Nat → Nat → Option Nat} {Q : am_Q} {x1 : Int32} {x2 : Int32} (h : (vp_in ((x1 * 4) + x2) 20 ∧ (Q (some (some (.int (M 6 ((x1 * 4) + x2).toNatClampNeg)))) (jm_z M L G)))) : am_T X 29 0 [some (.ref 5), some (.int x1), some (.int x2)] [] (jm_z M L G) (0, 0) Q := am_T_go [] 9 h
theorem rz_X3_placeOf_5_0 {X : Nat × (Nat → Int32)} {M : Nat → Nat → Int32} {L : Nat → Nat → Int64} {G : Nat → Nat → Option Nat} {Q : am_Q} {x1 : Int32} (h : am_T X 42 2 [some (.ref 5), some (.int x1), some (.int 0)] [] (jm_z M L G) (0, 0) Q) : am_T X 42 0 [some (.ref 5), some (.int x1), none] [] (jm_z M L G) (0, 0) Q := am_T_go [(2, [true, true, true])] 3 h
theorem rz_X3_placeOf_5_2 {X : Nat × (Nat → Int32)} {M : Nat → Nat → Int32} {L : Nat → Nat → Int64} {G : Nat → Nat → Option Nat} {Q : am_Q} {x1 : Int32} {x2 : Int32} (h : ((4 ≤ x2 → (Q (some (some (.int 4))) (jm_z M L G))) ∧ (¬ 4 ≤ x2 → (vp_in x2 4 ∧ ((¬ (M 7 x2.toNatClampNeg) = x1 → am_T X 42 2 [some (.ref 5), some (.int x1), some (.int (x2 + 1))] [] (jm_z M L G) (0, 0) Q) ∧ ((M 7 x2.toNatClampNeg) = x1 → (Q (some (some (.int x2))) (jm_z M L G)))))))) : am_T X 42 2 [some (.ref 5), some (.int x1), some (.int x2)] [] (jm_z M L G) (0, 0) Q := am_T_go [(2, [true, true, true])] 12 h
theorem rz_X5_isCountry_0 {X : Nat × (Nat → Int32)} {M : Nat → Nat → Int32} {L : Nat → Nat → Int64} {G : Nat → Nat → Option Nat} {Q : am_Q} {x0 : Int32} (h : ((x0 < 0 → (((0 : Int32) = 0 ∨ (0 : Int32) = 1) ∧ Q (some (some (.int 0))) (jm_z M L G))) ∧ (¬ x0 < 0 → ((5 ≤ x0 → (((0 : Int32) = 0 ∨ (0 : Int32) = 1) ∧ Q (some (some (.int 0))) (jm_z M L G))) ∧ (¬ 5 ≤ x0 → (((1 : Int32) = 0 ∨ (1 : Int32) = 1) ∧ Q (some (some (.int 1))) (jm_z M L G))))))) : am_T X 103 0 [some (.int x0)] [] (jm_z M L G) (0, 0) Q := am_T_go [] 8 h
section Rz2
variable {X : Nat × (Nat → Int32)} {M : Nat → Nat → Int32} {L : Nat → Nat → Int64} {G : Nat → Nat → Option Nat} {Q : am_Q}
theorem cz_numberOf_5 {k w : Nat} (hk : 5 * k + w < 100) (hQ : Q (some (some (.int (jm_of (M 9) k w)))) (jm_z M L G)) : am_T X 28 0 [some (.ref 5), some (.int (nI k)), some (.int (nI w))] [] (jm_z M L G) (0, 0) Q := by
  have e : nI k * 5 + nI w = nI (5 * k + w) := by
    rw [show nI k * 5 = nI (k * 5) from pk_mul k 5, nI_add, Nat.mul_comm k 5]
  refine rz_X3_numberOf_5_0 ?_
  rw [e, nI_clamp (by omega)]
  exact ⟨vp_in_nI hk (by decide), hQ⟩
theorem cz_placeOf_5 {x : Int32} (hQ : Q (some (some (.int (nI (jm_pl (M 7) x 4 0))))) (jm_z M L G)) : am_T X 42 0 [some (.ref 5), some (.int x), none] [] (jm_z M L G) (0, 0) Q := by
  refine rz_X3_placeOf_5_0 ?_
  have h : ∀ n k, k + n = 4 → Q (some (some (.int (nI (jm_pl (M 7) x n k))))) (jm_z M L G) → am_T X 42 2 [some (.ref 5), some (.int x), some (.int (nI k))] [] (jm_z M L G) (0, 0) Q := by
    intro n
    induction n with
    | zero =>
      intro k e hq
      have e2 : k = 4 := e
      subst e2
      exact rz_X3_placeOf_5_2 ⟨fun _ => hq, fun h => absurd (nI_le (Nat.le_refl 4) (by decide)) h⟩
    | succ n ih =>
      intro k e hq
      have hk : k < 4 := by omega
      unfold jm_pl at hq
      refine rz_X3_placeOf_5_2 ⟨fun h => absurd h (nI_ge hk (by decide)), fun _ => ⟨vp_in_nI hk (by decide), fun h => ?_, fun h => ?_⟩⟩
      · rw [nI_clamp (by omega)] at h
        rw [if_neg h] at hq
        rw [nI_1]
        exact ih (k + 1) (by omega) hq
      · rw [nI_clamp (by omega)] at h
        rw [if_pos h] at hq
        exact hq
  exact h 4 0 rfl hQ
theorem cz_standingOf_5 {k : Nat} (hk : 5 * k + 4 < 100) (hQ : Q (some (some (.int (jm_sd (M 9) (M 7) k)))) (jm_z M L G)) : am_T X 12 0 [some (.ref 5), some (.int (nI k)), none] [] (jm_z M L G) (0, 0) Q :=
  rz_X1_standingOf_5_0 (cl_i (fun _ h => cz_numberOf_5 (w := 1) (by omega) h)
    (rz_X1_standingOf_5_7 (cl_i (fun _ h => cz_placeOf_5 h)
      (rz_X1_standingOf_5_10 (cl_i (fun _ h => cz_numberOf_5 (w := 4) (by omega) h)
        (rz_X1_standingOf_5_26 (cl_i (fun _ h => cz_numberOf_5 (w := 0) (by omega) h)
          (rz_X1_standingOf_5_37 hQ))))))))
theorem cz_cover_16_5 {n : Nat} (hn : M 5 0 = nI n) (hn2 : 5 * n ≤ 100) (hv : jm_ft (M 9) n) (hQ : ∀ M', jm_I2 M 17 18 9 7 n M' → Q (some none) (jm_z M' L G)) : am_T X 11 0 [some (.ref 16), some (.ref 5), none, none, none, none] [] (jm_z M L G) (0, 0) Q := by
  refine rz_X1_cover_16_5_0 ?_
  -- over the SPANS
  have l2 : ∀ k, k ≤ n → ∀ M1, jm_I2 M 17 18 9 7 k M1 → am_T X 11 32 [some (.ref 16), some (.ref 5), some (.int (nI k)), none, none, none] [] (jm_z M1 L G) (0, 0) Q := by
    refine lp_dn n ?_ ?_
    · intro M1 hI
      refine rz_X1_cover_16_5_32 ⟨fun _ => hQ M1 hI, fun h => absurd ?_ h⟩
      rw [hI.1 5 (by decide) (by decide), hn]
      exact nI_le (Nat.le_refl n) (by omega)
    · intro k hk ih M1 hI
      obtain ⟨f, t, hf, ht, hft, ht2⟩ := hv k hk
      refine rz_X1_cover_16_5_32 ⟨fun h => absurd h ?_, fun _ => ?_⟩
      · rw [hI.1 5 (by decide) (by decide), hn]
        exact nI_ge hk (by omega)
      have e9 : M1 9 = M 9 := hI.1 9 (by decide) (by decide)
      have e7 : M1 7 = M 7 := hI.1 7 (by decide) (by decide)
      refine cl_i (fun _ h => cz_standingOf_5 (by omega) h) ?_
      refine rz_X1_cover_16_5_45 (cl_i (fun _ h => cz_numberOf_5 (w := 3) (by omega) h) ?_)
      refine rz_X1_cover_16_5_52 (cl_i (fun _ h => cz_numberOf_5 (w := 2) (by omega) h) ?_)
      refine rz_X1_cover_16_5_60 ?_
      rw [e9, e7, hf, ht]
      -- over its MONTHS
      have l3 : ∀ j, j ≤ t + 1 → f ≤ j → ∀ M2, jm_I3 M 17 18 9 7 k j M2 → am_T X 11 62 [some (.ref 16), some (.ref 5), some (.int (nI k)), some (.int (jm_sd (M 9) (M 7) k)), some (.int (nI t)), some (.int (nI j))] [] (jm_z M2 L G) (0, 0) Q := by
        refine lp_dn (t + 1) ?_ ?_
        · intro _ M2 hI2
          refine rz_X1_cover_16_5_62 ⟨fun _ => ?_, fun h => absurd (nI_lt (Nat.lt_succ_self t) (by omega)) h⟩
          rw [nI_1]
          refine ih M2 ⟨hI2.1, fun m hm => ?_⟩
          obtain ⟨g1, g2⟩ := hI2.2 m hm
          by_cases hmt : m < t + 1
          · rw [if_pos hmt] at g1 g2
            exact ⟨g1, g2⟩
          · rw [if_neg hmt] at g1 g2
            have hc : ¬ (jm_of (M 9) k 2 ≤ nI m ∧ nI m ≤ jm_of (M 9) k 3) := by
              rw [ht]
              exact fun h => nI_ge (show t < m by omega) (by omega) h.2
            exact ⟨by rw [g1, jm_st, if_neg hc], by rw [g2, jm_cv, if_neg hc]⟩
        · intro j hj ih2 hfj M2 hI2
          have hj3 : j < 360 := by omega
          refine rz_X1_cover_16_5_62 ⟨fun h => absurd h (nI_nlt (by omega) (by omega)), fun _ => ⟨jm_in hj3, jm_in hj3, jm_in hj3, jm_in hj3, ?_⟩⟩
          rw [nI_1, jm_cl hj3]
          refine ih2 (by omega) _ ⟨fun p h1 h2 => ?_, fun m hm => ?_⟩
          · rw [← hI2.1 p h1 h2]
            funext i
            rw [wi_m_eq, if_neg h1, wi_m_eq, if_neg h2]
          · obtain ⟨g1, g2⟩ := hI2.2 m hm
            rw [wi_m_eq, if_pos rfl, wi_m_eq, if_neg (show ¬ 17 = 18 by decide), wi_m_eq, if_neg (show ¬ 18 = 17 by decide), wi_m_eq, if_pos rfl]
            by_cases hmj : m = j
            · subst hmj
              rw [if_neg (Nat.lt_irrefl m)] at g1 g2
              have hc : jm_of (M 9) k 2 ≤ nI m ∧ nI m ≤ jm_of (M 9) k 3 := by
                rw [hf, ht]
                exact ⟨nI_le hfj (by omega), nI_le (by omega) (by omega)⟩
              rw [if_pos rfl, if_pos rfl, if_pos (Nat.lt_succ_self m), jm_st, jm_cv, if_pos hc, if_pos hc, g1, g2]
              exact ⟨rfl, rfl⟩
            · rw [if_neg hmj, if_neg hmj]
              by_cases hlt : m < j
              · rw [if_pos hlt] at g1 g2
                rw [if_pos (show m < j + 1 by omega)]
                exact ⟨g1, g2⟩
              · rw [if_neg hlt] at g1 g2
                rw [if_neg (show ¬ m < j + 1 by omega)]
                exact ⟨g1, g2⟩
      refine l3 f (by omega) (Nat.le_refl f) M1 ⟨hI.1, fun m hm => ?_⟩
      obtain ⟨g1, g2⟩ := hI.2 m hm
      by_cases hmf : m < f
      · have hc : ¬ (jm_of (M 9) k 2 ≤ nI m ∧ nI m ≤ jm_of (M 9) k 3) := by
          rw [hf]
          exact fun h => nI_ge hmf (by omega) h.1
        rw [if_pos hmf, jm_st, jm_cv, if_neg hc, if_neg hc]
        exact ⟨g1, g2⟩
      · rw [if_neg hmf]
        exact ⟨g1, g2⟩
  -- all MONTHS uncovered
  have l1 : ∀ j, j ≤ 360 → ∀ M1, jm_I1 M 17 18 j M1 → am_T X 11 2 [some (.ref 16), some (.ref 5), some (.int (nI j)), none, none, none] [] (jm_z M1 L G) (0, 0) Q := by
    refine lp_dn 360 ?_ ?_
    · intro M1 hI
      exact rz_X1_cover_16_5_2 ⟨fun _ => l2 0 (Nat.zero_le n) M1 ⟨hI.1, fun m hm => hI.2 m hm⟩, fun h => absurd jm_3e h⟩
    · intro j hj ih M1 hI
      refine rz_X1_cover_16_5_2 ⟨fun h => absurd h (jm_3 hj), fun _ => ⟨jm_in hj, jm_in hj, ?_⟩⟩
      rw [nI_1, jm_cl hj]
      refine ih _ ⟨fun p h1 h2 => ?_, fun m hm => ?_⟩
      · rw [← hI.1 p h1 h2]
        funext i
        rw [wi_m_eq, if_neg h2, wi_m_eq, if_neg h1]
      · rw [wi_m_eq, if_neg (show ¬ 17 = 18 by decide), wi_m_eq, if_pos rfl, wi_m_eq, if_pos rfl, wi_m_eq, if_neg (show ¬ 18 = 17 by decide)]
        by_cases hmj : m = j
        · rw [if_pos hmj, if_pos hmj]
          exact ⟨rfl, rfl⟩
        · rw [if_neg hmj, if_neg hmj]
          exact hI.2 m (by omega)
  exact l1 0 (Nat.zero_le _) M ⟨fun _ _ _ => rfl, fun m hm => absurd hm (Nat.not_lt_zero m)⟩
theorem cz_countCovered_16_5 {n : Nat} (hn2 : 5 * n ≤ 100) (hk : ∀ m, m < 360 → M 17 m = 1073741824 ∨ ∃ k, k < n ∧ am_rem (M 17 m) 64 = nI k) (hQ : ∀ M', jm_I4 M 17 9 8 360 M' → Q (some none) (jm_z M' L G)) : am_T X 13 0 [some (.ref 16), some (.ref 5), none, none] [] (jm_z M L G) (0, 0) Q := by
  refine rz_X1_countCovered_16_5_0 ?_
  have l1 : ∀ j, j ≤ 360 → ∀ M1, jm_I4 M 17 9 8 j M1 → am_T X 13 2 [some (.ref 16), some (.ref 5), some (.int (nI j)), none] [] (jm_z M1 L G) (0, 0) Q := by
    refine lp_dn 360 ?_ ?_
    · intro M1 hI
      exact rz_X1_countCovered_16_5_2 ⟨fun _ => hQ M1 hI, fun h => absurd jm_3e h⟩
    · intro j hj ih M1 hI
      have eA : M1 17 = M 17 := hI.1 17 (by decide) (by decide) (by decide)
      have eS : M1 9 = M 9 := hI.1 9 (by decide) (by decide) (by decide)
      have eX : M1 8 = M 8 := hI.1 8 (by decide) (by decide) (by decide)
      refine rz_X1_countCovered_16_5_2 ⟨fun h => absurd h (jm_3 hj), fun _ => ⟨jm_in hj, ?_⟩⟩
      rw [jm_cl hj, eA, nI_1]
      refine ⟨fun hne => ⟨jm_in hj, by decide, jm_in hj, ?_⟩, fun he => ⟨jm_in hj, jm_in hj, jm_in hj, ?_⟩⟩
      · obtain ⟨k, hkn, hke⟩ : ∃ k, k < n ∧ am_rem (M 17 j) 64 = nI k := by
          rcases hk j hj with h | h
          · exact absurd h hne
          · exact h
        have hkk : jm_kk (M 17 j) = k := by
          unfold jm_kk
          rw [hke]
          exact nI_clamp (by omega)
        rw [hke]
        refine cl_i (fun _ h => cz_numberOf_5 (w := 0) (by omega) h) ?_
        refine rz_X1_countCovered_16_5_72 ⟨jm_in hj, cl_i (fun _ h => cz_numberOf_5 (w := 4) (by omega) h) ?_⟩
        have e12 : nI j / 12 = nI (j / 12) := pk_div (d := 12) (by omega) (by decide) (by decide)
        refine rz_X1_countCovered_16_5_84 ⟨by decide, ?_⟩
        rw [e12]
        refine ⟨vp_in_nI (by omega) (by decide), by decide, jm_in hj, ?_⟩
        rw [jm_cl hj, nI_clamp (show j / 12 < 2 ^ 31 by omega), nI_1]
        refine ih _ (jm_I4_next hI rfl ?_ ?_ ?_)
        · rw [jm_by, if_neg hne, hke]
        · rw [jm_ld, if_neg hne, hkk]
          show jm_of (M1 9) k 0 = _
          rw [eS]
        · rw [jm_wg, if_neg hne, hkk]
          show jm_of (M1 9) k 4 * M1 8 (j / 12) / 100 = _
          rw [eS, eX]
      · refine ih _ (jm_I4_next hI rfl ?_ ?_ ?_)
        · rw [jm_by, if_pos he]
        · rw [jm_ld, if_pos he]
        · rw [jm_wg, if_pos he]
  exact l1 0 (Nat.zero_le _) M ⟨fun _ _ _ _ => rfl, fun m hm => absurd hm (Nat.not_lt_zero m)⟩
theorem cz_findGaps_16 (hc : ∀ m, m ≤ 360 → (jm_fg (M 19) m).2.1 < 44) (hQ : ∀ M', jm_I5 M 16 7 22 23 (jm_fg (M 19) 360) M' → Q (some none) (jm_z M' L G)) : am_T X 14 0 [some (.ref 16), none, none] [] (jm_z M L G) (0, 0) Q := by
  refine rz_X1_findGaps_16_0 ?_
  have l1 : ∀ j, j ≤ 360 → ∀ M1, jm_I5 M 16 7 22 23 (jm_fg (M 19) j) M1 → am_T X 14 9 [some (.ref 16), some (.int (jm_fg (M 19) j).1), some (.int (nI j))] [] (jm_z M1 L G) (0, 0) Q := by
    refine lp_dn 360 ?_ ?_
    · intro M1 hI
      exact rz_X1_findGaps_16_9 ⟨fun _ => hQ M1 hI, fun h => absurd jm_3e h⟩
    · intro j hj ih M1 hI
      have eB : M1 19 = M 19 := hI.1 19 (by decide) (by decide) (by decide)
      have h44 := hc j (by omega)
      refine rz_X1_findGaps_16_9 ⟨fun h => absurd h (jm_3 hj), fun _ => ⟨jm_in hj, ?_⟩⟩
      rw [jm_cl hj, eB, nI_1, hI.2.1, nI_clamp (show (jm_fg (M 19) j).2.1 < 2 ^ 31 by omega), nI_1]
      refine ⟨fun hne => ⟨fun ha => ?_, fun ha => ⟨fun hd => ?_, fun hd => ⟨fun h => absurd h (nI_ge h44 (by decide)), fun _ => ⟨vp_in_nI h44 (by decide), vp_in_nI h44 (by decide), ?_⟩⟩⟩⟩, fun he => ?_⟩
      · have e : jm_fg (M 19) (j + 1) = (nI j, (jm_fg (M 19) j).2) := by rw [jm_fg, if_neg hne, if_pos ha]
        rw [e] at ih
        exact ih M1 hI
      · have e : jm_fg (M 19) (j + 1) = (nI j, (jm_fg (M 19) j).2) := by rw [jm_fg, if_neg hne, if_neg ha, if_pos hd]
        rw [e] at ih
        exact ih M1 hI
      · have e : jm_fg (M 19) (j + 1) = (nI j, (jm_fg (M 19) j).2.1 + 1, upd (jm_fg (M 19) j).2.2.1 (jm_fg (M 19) j).2.1 ((jm_fg (M 19) j).1 + 1), upd (jm_fg (M 19) j).2.2.2 (jm_fg (M 19) j).2.1 (nI j - (jm_fg (M 19) j).1 - 1)) := by rw [jm_fg, if_neg hne, if_neg ha, if_neg hd]
        rw [e] at ih
        exact ih _ (jm_I5_next (by decide) (by decide) (by decide) hI rfl)
      · have e : jm_fg (M 19) (j + 1) = jm_fg (M 19) j := by rw [jm_fg, if_pos he]
        rw [e] at ih
        exact ih M1 hI
  refine l1 0 (Nat.zero_le _) _ ⟨fun q h1 h2 h3 => ?_, ?_, fun g hg => absurd hg (Nat.not_lt_zero g)⟩
  · funext i
    rw [wi_m_eq, if_neg h1]
  · rw [wi_m_eq, if_pos rfl, if_pos rfl]
    rfl
theorem cz_creditGaps_16 {c : Nat} {cr : Int32} (hc : M 16 7 = nI c) (hc2 : c ≤ 44) (hg : ∀ g, g < c → ∃ a b : Nat, M 22 g = nI (a + 1) ∧ M 23 g = nI b ∧ a + 1 + b ≤ 360) (hQ : ∀ M', jm_I6 M 20 21 (jm_cg cr (M 22) (M 23) (M 20) (M 21) c) M' → Q (some none) (jm_z M' L G)) : am_T X 15 0 [some (.ref 16), some (.int cr), none, none, none] [] (jm_z M L G) (0, 0) Q := by
  refine rz_X1_creditGaps_16_0 ?_
  have l1 : ∀ g, g ≤ c → ∀ M1, jm_I6 M 20 21 (jm_cg cr (M 22) (M 23) (M 20) (M 21) g) M1 → am_T X 15 2 [some (.ref 16), some (.int cr), some (.int (nI g)), none, none] [] (jm_z M1 L G) (0, 0) Q := by
    refine lp_dn c ?_ ?_
    · intro M1 hI
      refine rz_X1_creditGaps_16_2 ⟨fun _ => hQ M1 hI, fun h => absurd ?_ h⟩
      rw [hI.1 16 (by decide) (by decide), hc]
      exact nI_le (Nat.le_refl c) (by omega)
    · intro g hgc ih M1 hI
      obtain ⟨a, b, ha, hb, hab⟩ := hg g hgc
      have e1 : M1 16 = M 16 := hI.1 16 (by decide) (by decide)
      have e2 : M1 22 = M 22 := hI.1 22 (by decide) (by decide)
      have e3 : M1 23 = M 23 := hI.1 23 (by decide) (by decide)
      have hg4 : g < 44 := by omega
      refine rz_X1_creditGaps_16_2 ⟨fun h => absurd h ?_, fun _ => ⟨vp_in_nI hg4 (by decide), vp_in_nI hg4 (by decide), ?_⟩⟩
      · rw [e1, hc]
        exact nI_ge hgc (by omega)
      rw [nI_clamp (show g < 2 ^ 31 by omega), e2, e3, nI_1]
      refine ⟨fun hlt => ?_, fun hlt => ⟨fun _ => ?_, fun h => absurd ?_ h⟩⟩
      · have e : jm_cg cr (M 22) (M 23) (M 20) (M 21) (g + 1) = jm_cg cr (M 22) (M 23) (M 20) (M 21) g := by rw [jm_cg, if_pos hlt]
        rw [e] at ih
        exact ih M1 hI
      · rw [jm_cg_s hlt ha hb hab] at ih
        rw [ha]
        have l3 : ∀ j, j ≤ a + 1 + b → a + 1 ≤ j → ∀ M2, jm_I6 M 20 21 (jm_cr (jm_cg cr (M 22) (M 23) (M 20) (M 21) g) a j) M2 → am_T X 15 38 [some (.ref 16), some (.int cr), some (.int (nI g)), some (.int (nI (a + 1))), some (.int (nI j))] [] (jm_z M2 L G) (0, 0) Q := by
          refine lp_dn (a + 1 + b) ?_ ?_
          · intro _ M2 hI2
            refine rz_X1_creditGaps_16_38 ⟨vp_in_nI hg4 (by decide), ?_⟩
            rw [nI_clamp (show g < 2 ^ 31 by omega), hI2.1 23 (by decide) (by decide), hb, nI_add, nI_1]
            exact ⟨fun _ => ih M2 hI2, fun h => absurd (nI_le (Nat.le_refl _) (by omega)) h⟩
          · intro j hj ih2 haj M2 hI2
            have hj3 : j < 360 := by omega
            refine rz_X1_creditGaps_16_38 ⟨vp_in_nI hg4 (by decide), ?_⟩
            rw [nI_clamp (show g < 2 ^ 31 by omega), hI2.1 23 (by decide) (by decide), hb, nI_add, nI_pred, jm_cl hj3, jm_cl (show a < 360 by omega)]
            refine ⟨fun h => absurd h (nI_ge hj (by omega)), fun _ => ⟨jm_in (by omega), jm_in hj3, jm_in (by omega), by decide, jm_in hj3, ?_⟩⟩
            rw [nI_1 j]
            exact ih2 (by omega) _ (jm_I6_next (by decide) (by omega) haj hI2 rfl)
        refine l3 (a + 1) (by omega) (Nat.le_refl _) M1 ⟨hI.1, fun m hm => ?_⟩
        obtain ⟨g1, g2⟩ := hI.2 m hm
        exact ⟨g1.trans (if_neg (by omega)).symm, g2.trans (if_neg (by omega)).symm⟩
      · rw [ha]
        exact nI_le (a := 1) (by omega) (by omega)
  exact l1 0 (Nat.zero_le _) M ⟨fun _ _ _ => rfl, fun _ _ => ⟨rfl, rfl⟩⟩
theorem cz_monthsReckon_16_5 {n : Nat} (hn : M 5 0 = nI n) (hn2 : 5 * n ≤ 100) (hok : jm_ok (M 9) n) (hc : ∀ m, m ≤ 360 → (jm_fg (jm_B (M 9) (M 7) n) m).2.1 < 44) (hQ : ∀ M', jm_Mo M 16 (M 9) (M 7) (M 8) n (M 5 5) M' → Q (some none) (jm_z M' L G)) : am_T X 10 0 [some (.ref 16), some (.ref 5)] [] (jm_z M L G) (0, 0) Q := by
  refine rz_X1_reckon_16_5_0 ⟨fun σ' => ∃ M1, σ' = jm_z M1 L G ∧ jm_I2 M 17 18 9 7 n M1, cz_cover_16_5 hn hn2 (jm_ok_ft hok) (fun M1 h => ⟨rfl, M1, rfl, h⟩), ?_⟩
  rintro _ ⟨M1, rfl, h1⟩
  have s1 : M1 9 = M 9 := h1.1 _ (by decide) (by decide)
  have x1 : M1 8 = M 8 := h1.1 _ (by decide) (by decide)
  refine rz_X1_reckon_16_5_5 ⟨fun σ' => ∃ M2, σ' = jm_z M2 L G ∧ jm_I4 M1 17 9 8 360 M2, cz_countCovered_16_5 (n := n) hn2 ?_ (fun M2 h => ⟨rfl, M2, rfl, h⟩), ?_⟩
  · intro m hm
    rw [(h1.2 m hm).1]
    exact jm_st_rem hok (by omega)
  rintro _ ⟨M2, rfl, h2⟩
  have b2 : ∀ m, m < 360 → M2 19 m = jm_B (M 9) (M 7) n m := by
    intro m hm
    have h := (h2.2 m hm).1
    rw [(h1.2 m hm).1] at h
    exact h
  have c2 : ∀ m, m < 360 → M2 20 m = jm_ld (M 9) (jm_st (M 9) (M 7) m n) ∧ M2 21 m = jm_wg (M 9) (M 8) (jm_st (M 9) (M 7) m n) m := by
    intro m hm
    have h := (h2.2 m hm).2
    rw [(h1.2 m hm).1, s1, x1] at h
    exact h
  have g2 : jm_fg (M2 19) 360 = jm_GP (M 9) (M 7) n := jm_fg_cong (fun k hk => b2 k hk)
  refine rz_X1_reckon_16_5_10 ⟨fun σ' => ∃ M3, σ' = jm_z M3 L G ∧ jm_I5 M2 16 7 22 23 (jm_GP (M 9) (M 7) n) M3, cz_findGaps_16 ?_ (fun M3 h => ⟨rfl, M3, rfl, by rw [← g2]; exact h⟩), ?_⟩
  · intro m hm
    rw [jm_fg_cong (fun k hk => b2 k (by omega))]
    exact hc m hm
  rintro _ ⟨M3, rfl, h3⟩
  have c3 : M3 5 5 = M 5 5 := by
    rw [h3.1 5 (by decide) (by decide) (by decide), h2.1 5 (by decide) (by decide) (by decide), h1.1 5 (by decide) (by decide)]
  have k3 := (jm_fg_ok (jm_B (M 9) (M 7) n) 360 (Nat.le_refl _)).2
  have l3 : M3 20 = M2 20 := h3.1 _ (by decide) (by decide) (by decide)
  have w3 : M3 21 = M2 21 := h3.1 _ (by decide) (by decide) (by decide)
  have n44 : (jm_GP (M 9) (M 7) n).2.1 < 44 := hc 360 (Nat.le_refl _)
  refine rz_X1_reckon_16_5_14 ⟨fun σ' => ∃ M4, σ' = jm_z M4 L G ∧ jm_I6 M3 20 21 (jm_cg (M3 5 5) (M3 22) (M3 23) (M3 20) (M3 21) (jm_GP (M 9) (M 7) n).2.1) M4, cz_creditGaps_16 h3.2.1 (by omega) ?_ (fun M4 h => ⟨rfl, M4, rfl, h⟩), ?_⟩
  · intro g hg
    rw [(h3.2.2 g hg).1, (h3.2.2 g hg).2]
    exact k3 g hg
  rintro _ ⟨M4, rfl, h4⟩
  refine rz_X1_reckon_16_5_22 (hQ M4 ⟨fun q hq => ?_, fun m hm => ?_, ?_, fun g hg => ?_⟩)
  · rw [h4.1 q (by omega) (by omega), h3.1 q (by omega) (by omega) (by omega), h2.1 q (by omega) (by omega) (by omega), h1.1 q (by omega) (by omega)]
  · have e1 : M4 18 m = jm_cv (M 9) m n := by
      rw [h4.1 18 (by decide) (by decide), h3.1 18 (by decide) (by decide) (by decide), h2.1 18 (by decide) (by decide) (by decide)]
      exact (h1.2 m hm).2
    have e2 : M4 19 m = jm_B (M 9) (M 7) n m := by
      rw [h4.1 19 (by decide) (by decide), h3.1 19 (by decide) (by decide) (by decide)]
      exact b2 m hm
    have e3 := h4.2 m hm
    have e4 := jm_cg_cong (cr := M 5 5) (gf := M3 22) (gl := M3 23) (ld := M3 20) (wg := M3 21) (gf' := (jm_GP (M 9) (M 7) n).2.2.1) (gl' := (jm_GP (M 9) (M 7) n).2.2.2) (ld' := fun m => jm_ld (M 9) (jm_st (M 9) (M 7) m n)) (wg' := fun m => jm_wg (M 9) (M 8) (jm_st (M 9) (M 7) m n) m) (fun m hm => by rw [l3, w3]; exact c2 m hm) (c := (jm_GP (M 9) (M 7) n).2.1) (fun g hg => ⟨(h3.2.2 g hg).1, (h3.2.2 g hg).2, by
      obtain ⟨a, b, ha, hb, hab⟩ := k3 g hg
      rw [(h3.2.2 g hg).1]
      rw [show (jm_GP (M 9) (M 7) n).2.2.1 g = nI (a + 1) from ha, nI_clamp (by omega)]
      omega⟩) m hm
    rw [c3] at e3
    exact ⟨e1, e2, e3.1.trans e4.1, e3.2.trans e4.2⟩
  · rw [h4.1 16 (by decide) (by decide)]
    exact h3.2.1
  · have f1 : M4 22 = M3 22 := h4.1 _ (by decide) (by decide)
    have f2 : M4 23 = M3 23 := h4.1 _ (by decide) (by decide)
    have h := h3.2.2 g hg
    rw [← f1, ← f2] at h
    exact h
theorem cz_byMonths {v n : Int32} (hQ : Q (some (some (.int (jm_bm v n)))) (jm_z M L G)) : am_T X 3 0 [some (.int v), some (.int n)] [] (jm_z M L G) (0, 0) Q := by
  unfold jm_bm at hQ
  refine rz_X0_byMonths_0 ⟨fun h => ?_, fun h => ⟨fun e => ?_, ?_⟩⟩
  · rw [if_pos h] at hQ
    exact hQ
  · subst e
    exact h (by decide)
  · rw [if_neg h] at hQ
    exact hQ
theorem cz_lawOf_5 {c w : Nat} (hk : 4 * c + w < 20) (hQ : Q (some (some (.int (M 6 (4 * c + w))))) (jm_z M L G)) : am_T X 29 0 [some (.ref 5), some (.int (nI c)), some (.int (nI w))] [] (jm_z M L G) (0, 0) Q := by
  have e : nI c * 4 + nI w = nI (4 * c + w) := by
    rw [show nI c * 4 = nI (c * 4) from pk_mul c 4, nI_add, Nat.mul_comm c 4]
  refine rz_X3_lawOf_5_0 ?_
  rw [e, nI_clamp (by omega)]
  exact ⟨vp_in_nI hk (by decide), hQ⟩
theorem cz_sum_5 {c : Nat} {n g : Int32} (hc : c < 5) (hQ : Q (some (some (.int (n * M 6 (4 * c + 1) + ((n * M 6 (4 * c + 2)) * g) / 10000)))) (jm_z M L G)) : am_T X 7 0 [some (.ref 5), some (.int (nI c)), some (.int n), some (.int g), none] [] (jm_z M L G) (0, 0) Q :=
  rz_X0_sum_5_0 (cl_i (fun _ h => cz_lawOf_5 (w := 1) (by omega) h) (rz_X0_sum_5_7 (cl_i (fun _ h => cz_lawOf_5 (w := 2) (by omega) h) (rz_X0_sum_5_19 ⟨by decide, hQ⟩))))
theorem cz_paysOf_15 {c : Nat} (hc : c < 5) (hQ : Q (some (some (.int (if M 28 c < M 30 c then M 30 c else M 28 c)))) (jm_z M L G)) : am_T X 8 0 [some (.ref 15), some (.int (nI c))] [] (jm_z M L G) (0, 0) Q := by
  refine rz_X0_paysOf_15_0 ?_
  rw [nI_clamp (by omega)]
  exact ⟨vp_in_nI hc (by decide), vp_in_nI hc (by decide), hQ⟩
theorem cz_isCountry_y {c : Nat} (hc : c < 5) (hQ : Q (some (some (.int 1))) (jm_z M L G)) : am_T X 103 0 [some (.int (nI c))] [] (jm_z M L G) (0, 0) Q :=
  rz_X5_isCountry_0 ⟨fun h => absurd h (nI_pos (by omega)), fun _ => ⟨fun h => absurd h (nI_ge hc (by decide)), fun _ => ⟨Or.inr rfl, hQ⟩⟩⟩
theorem cz_isCountry_n {x : Int32} (hx : x < 0 ∨ 5 ≤ x) (hQ : Q (some (some (.int 0))) (jm_z M L G)) : am_T X 103 0 [some (.int x)] [] (jm_z M L G) (0, 0) Q :=
  rz_X5_isCountry_0 ⟨fun _ => ⟨Or.inl rfl, hQ⟩, fun h => ⟨fun _ => ⟨Or.inl rfl, hQ⟩, fun h2 => absurd hx (fun h3 => h3.elim h h2)⟩⟩
theorem cz_addMonths_15 (hl : jm_la (M 20)) (hQ : ∀ M', jm_Ad M 15 (M 20) (M 21) (M 19) M' → Q (some none) (jm_z M' L G)) : am_T X 2 0 [some (.ref 15), none, none] [] (jm_z M L G) (0, 0) Q := by
  refine rz_X0_addMonths_15_0 ?_
  have l3 : ∀ k, k ≤ 5 → ∀ M1, jm_I8 M 15 (M 20) (M 21) (M 19) k M1 → am_T X 2 130 [some (.ref 15), some (.int (jm_sm (fun c => jm_os (M 20) (M 21) c 360) k)), some (.int (nI k))] [] (jm_z M1 L G) (0, 0) Q := by
    refine lp_dn 5 ?_ ?_
    · intro M1 hI
      refine rz_X0_addMonths_15_130 ⟨fun _ => ?_, fun h => absurd (nI_le (Nat.le_refl 5) (by decide)) h⟩
      refine cl_i (fun _ h => cz_byMonths h) (rz_X0_addMonths_15_195 (hQ _ ?_))
      unfold jm_I8 at hI
      unfold jm_Ad
      refine ⟨?_, ?_, ?_, ?_, ?_⟩
      · grind [wi_m_p]
      all_goals simp only [wi_m_eq]
      all_goals grind
    · intro k hk ih M1 hI
      refine rz_X0_addMonths_15_130 ⟨fun h => absurd h (nI_ge hk (by decide)), fun _ => ?_⟩
      have hv : vp_in (nI k) 5 := vp_in_nI hk (by decide)
      have hcl : (nI k).toNatClampNeg = k := nI_clamp (by omega)
      refine ⟨hv, hv, hv, hv, cl_i (fun _ h => cz_byMonths h) (rz_X0_addMonths_15_179 ⟨hv, ?_⟩)⟩
      unfold jm_I8 at hI ih
      obtain ⟨h1, h2, h3, h4⟩ := hI
      have h5 := h4 k hk
      rw [hcl, nI_1, h5.2.2, if_neg (Nat.lt_irrefl k), h5.1]
      refine ih _ ⟨?_, ?_, ?_, ?_⟩
      · grind [wi_m_p]
      all_goals simp only [wi_m_eq]
      · grind
      · rw [h3]
        rfl
      · grind
  have l2 : ∀ k, k ≤ 360 → ∀ M1, jm_I7 M 24 (fun c => jm_ow (M 20) c k) (fun c => jm_cn (M 20) (M 19) c k) (fun c => jm_os (M 20) (M 21) c k) 5 M1 → am_T X 2 36 [some (.ref 15), some (.int (nI k)), none] [] (jm_z M1 L G) (0, 0) Q := by
    refine lp_dn 360 ?_ ?_
    · intro M1 hI
      refine rz_X0_addMonths_15_36 ⟨fun _ => ?_, fun h => absurd jm_3e h⟩
      refine l3 0 (by decide) _ ?_
      unfold jm_I7 at hI
      unfold jm_I8
      refine ⟨?_, ?_, ?_, ?_⟩
      · grind [wi_m_p]
      all_goals simp only [wi_m_eq]
      · grind
      · rfl
      · grind
    · intro k hk ih M1 hI
      refine rz_X0_addMonths_15_36 ⟨fun h => absurd h (jm_3 hk), fun _ => ⟨jm_in hk, ?_⟩⟩
      have e20 : M1 20 = M 20 := hI.1 20 (by decide) (by decide) (by decide)
      have e19 : M1 19 = M 19 := hI.1 19 (by decide) (by decide) (by decide)
      have e21 : M1 21 = M 21 := hI.1 21 (by decide) (by decide) (by decide)
      rw [jm_cl hk, e20]
      rcases hl k hk with h1 | ⟨c, hc, h1⟩
      · rw [h1]
        refine cl_i (fun _ h => cz_isCountry_n (Or.inl (by decide)) h) (rz_X0_addMonths_15_57 ⟨fun _ => ?_, fun h => absurd rfl h⟩)
        rw [nI_1]
        refine ih M1 ⟨hI.1, fun d hd => ?_⟩
        have hn : ¬ (M 20 k = nI d) := by
          rw [h1]
          exact fun e => jm_ne1 (by omega) e.symm
        have := hI.2 d hd
        simp only [jm_ow_s, jm_cn_s, jm_os_s, if_neg hn, Int32.add_zero]
        exact this
      · rw [h1]
        have hv : vp_in (nI c) 5 := vp_in_nI hc (by decide)
        have hcl : (nI c).toNatClampNeg = c := nI_clamp (by omega)
        refine cl_i (fun _ h => cz_isCountry_y hc h) (rz_X0_addMonths_15_57 ⟨fun h => absurd h (by decide), fun _ => ⟨hv, hv, hv, jm_in hk, ?_⟩⟩)
        rw [jm_cl hk, hcl, nI_1, e19, e21]
        have hI2 := hI.2 c hc
        refine ⟨fun h => ⟨hv, hv, jm_in hk, hv, ih _ (jm_I7_put (k := c) hI rfl ?_ ?_)⟩, fun h => ⟨hv, hv, jm_in hk, hv, ih _ (jm_I7_put (k := c) hI rfl ?_ ?_)⟩⟩
        · intro d hd e
          subst e
          simp only [jm_ow_s, jm_cn_s, jm_os_s, if_pos h1, if_pos h, hI2.1, hI2.2.1, hI2.2.2]
          refine ⟨?_, ?_, ?_⟩ <;> first | rfl | trivial
        · intro d hd e
          have hn : ¬ (M 20 k = nI d) := by
            rw [h1]
            exact jm_ne (by omega) (by omega) (fun e2 => e e2.symm)
          simp only [jm_ow_s, jm_cn_s, jm_os_s, if_neg hn, Int32.add_zero]
          refine ⟨hd, ?_, ?_, ?_⟩ <;> first | rfl | trivial
        · intro d hd e
          subst e
          simp only [jm_ow_s, jm_cn_s, jm_os_s, if_pos h1, if_neg h, hI2.1, hI2.2.1, hI2.2.2]
          refine ⟨?_, ?_, ?_⟩ <;> first | rfl | trivial
        · intro d hd e
          have hn : ¬ (M 20 k = nI d) := by
            rw [h1]
            exact jm_ne (by omega) (by omega) (fun e2 => e e2.symm)
          simp only [jm_ow_s, jm_cn_s, jm_os_s, if_neg hn, Int32.add_zero]
          refine ⟨hd, ?_, ?_, ?_⟩ <;> first | rfl | trivial
  refine lp_dn (P := fun k => ∀ M1, jm_I7 M 24 (fun _ => 0) (fun _ => 0) (fun _ => 0) k M1 → am_T X 2 2 [some (.ref 15), some (.int (nI k)), none] [] (jm_z M1 L G) (0, 0) Q) 5 ?_ ?_ 0 (by decide) M ⟨fun _ _ _ _ => rfl, fun c hc => absurd hc (Nat.not_lt_zero c)⟩
  · intro M1 hI
    refine rz_X0_addMonths_15_2 ⟨fun _ => l2 0 (by decide) M1 hI, fun h => absurd (nI_le (Nat.le_refl 5) (by decide)) h⟩
  · intro k hk ih M1 hI
    have hv : vp_in (nI k) 5 := vp_in_nI hk (by decide)
    refine rz_X0_addMonths_15_2 ⟨fun h => absurd h (nI_ge hk (by decide)), fun _ => ⟨hv, hv, hv, ?_⟩⟩
    rw [nI_clamp (by omega), nI_1]
    exact ih _ (jm_I7_put (k := k) hI rfl (fun _ _ _ => ⟨rfl, rfl, rfl⟩) (fun c hc e => ⟨by omega, rfl, rfl, rfl⟩))
end Rz2
theorem rq_X0_findBearer_15_7s {X : Nat × (Nat → Int32)} {M : Nat → Nat → Int32} {L : Nat → Nat → Int64} {G : Nat → Nat → Option Nat} {Q : am_Q} {x1 : Int32} {k : Nat} (hk : k < 5) (h : (((M 24 k) < (if 1 < x1 then x1 else 1) → (am_T X 4 7 [some (.ref 15), some (.int x1), some (.int (nI (k + 1))), none] [] (jm_z M L G) (0, 0) Q)) ∧ (¬ (M 24 k) < (if 1 < x1 then x1 else 1) → (((M 15 10) = (-1) → (am_T X 4 7 [some (.ref 15), some (.int x1), some (.int (nI (k + 1))), none] [] (jm_z (wi_m M 15 10 (nI k)) L G) (0, 0) Q)) ∧ (¬ (M 15 10) = (-1) → (vp_in (M 15 10) 5 ∧ (((M 24 k) ≤ (M 24 (M 15 10).toNatClampNeg) → (am_T X 4 7 [some (.ref 15), some (.int x1), some (.int (nI (k + 1))), none] [] (jm_z M L G) (0, 0) Q)) ∧ (¬ (M 24 k) ≤ (M 24 (M 15 10).toNatClampNeg) → (am_T X 4 7 [some (.ref 15), some (.int x1), some (.int (nI (k + 1))), none] [] (jm_z (wi_m M 15 10 (nI k)) L G) (0, 0) Q))))))))) : am_T X 4 7 [some (.ref 15), some (.int x1), some (.int (nI k)), none] [] (jm_z M L G) (0, 0) Q := rz_X0_findBearer_15_7 (by
  rw [nI_clamp (show k < 2147483648 by omega), nI_1 k]
  exact ⟨fun e => absurd e (nI_ge hk (by decide)), fun _ => ⟨(vp_in_nI hk (by decide)), ⟨fun e1 => ⟨fun _ => (h.1 e1), fun e => absurd rfl e⟩, fun e1 => ⟨fun e => absurd e (by decide), fun _ => ⟨fun e2 => ((h.2 e1).1 e2), fun e2 => ⟨(vp_in_nI hk (by decide)), ⟨((h.2 e1).2 e2).1, ⟨fun e4 => (((h.2 e1).2 e2).2.1 e4), fun e4 => (((h.2 e1).2 e2).2.2 e4)⟩⟩⟩⟩⟩⟩⟩⟩)
theorem rq_X0_findBearer_15_7e {X : Nat × (Nat → Int32)} {M : Nat → Nat → Int32} {L : Nat → Nat → Int64} {G : Nat → Nat → Option Nat} {Q : am_Q} {x1 : Int32}  (h : Q (some none) (jm_z M L G)) : am_T X 4 7 [some (.ref 15), some (.int x1), some (.int (nI 5)), none] [] (jm_z M L G) (0, 0) Q := rz_X0_findBearer_15_7 (by
  rw [nI_clamp (show 5 < 2147483648 by omega), nI_1 5]
  exact ⟨fun _ => h, fun e => absurd (nI_le (Nat.le_refl 5) (by decide)) e⟩)
theorem rq_X0_layBases_15_7s {X : Nat × (Nat → Int32)} {M : Nat → Nat → Int32} {L : Nat → Nat → Int64} {G : Nat → Nat → Option Nat} {Q : am_Q} {x1 : Int32} {k : Nat} (hk : k < 5) (h : ((x1 ≤ (M 24 k) → (am_T X 5 7 [some (.ref 15), some (.int x1), some (.int (nI (k + 1))), none] [] (jm_z (wi_m (wi_m M 27 k (M 24 k)) 15 11 ((M 15 11) + 0)) L G) (0, 0) Q)) ∧ (¬ x1 ≤ (M 24 k) → (((M 15 10) = (-1) → (am_T X 5 7 [some (.ref 15), some (.int x1), some (.int (nI (k + 1))), none] [] (jm_z (wi_m (wi_m M 27 k 0) 15 11 ((M 15 11) + 0)) L G) (0, 0) Q)) ∧ (¬ (M 15 10) = (-1) → (am_T X 5 7 [some (.ref 15), some (.int x1), some (.int (nI (k + 1))), none] [] (jm_z (wi_m (wi_m M 27 k 0) 15 11 ((M 15 11) + (M 24 k))) L G) (0, 0) Q)))))) : am_T X 5 7 [some (.ref 15), some (.int x1), some (.int (nI k)), none] [] (jm_z M L G) (0, 0) Q := rz_X0_layBases_15_7 (by
  rw [nI_clamp (show k < 2147483648 by omega), nI_1 k]
  exact ⟨fun e => absurd e (nI_ge hk (by decide)), fun _ => ⟨(vp_in_nI hk (by decide)), ⟨fun e1 => ⟨fun _ => ⟨(vp_in_nI hk (by decide)), ⟨(vp_in_nI hk (by decide)), ⟨fun _ => (h.1 e1), fun e => absurd rfl e⟩⟩⟩, fun e => absurd rfl e⟩, fun e1 => ⟨fun e => absurd e (by decide), fun _ => ⟨(vp_in_nI hk (by decide)), ⟨fun e => absurd e (by decide), fun _ => ⟨fun e2 => ((h.2 e1).1 e2), fun e2 => ⟨(vp_in_nI hk (by decide)), ((h.2 e1).2 e2)⟩⟩⟩⟩⟩⟩⟩⟩)
theorem rq_X0_layBases_15_7e {X : Nat × (Nat → Int32)} {M : Nat → Nat → Int32} {L : Nat → Nat → Int64} {G : Nat → Nat → Option Nat} {Q : am_Q} {x1 : Int32}  (h : (((M 15 10) = (-1) → (Q (some none) (jm_z M L G))) ∧ (¬ (M 15 10) = (-1) → (vp_in (M 15 10) 5 ∧ (Q (some none) (jm_z (wi_m M 27 (M 15 10).toNatClampNeg ((M 27 (M 15 10).toNatClampNeg) + (M 15 11))) L G)))))) : am_T X 5 7 [some (.ref 15), some (.int x1), some (.int (nI 5)), none] [] (jm_z M L G) (0, 0) Q := rz_X0_layBases_15_7 (by
  rw [nI_clamp (show 5 < 2147483648 by omega), nI_1 5]
  exact ⟨fun _ => ⟨fun e0 => (h.1 e0), fun e0 => ⟨(h.2 e0).1, ⟨(h.2 e0).1, (h.2 e0).2⟩⟩⟩, fun e => absurd (nI_le (Nat.le_refl 5) (by decide)) e⟩)
theorem rq_X0_reckonCountry_15_5_6 {X : Nat × (Nat → Int32)} {M : Nat → Nat → Int32} {L : Nat → Nat → Int64} {G : Nat → Nat → Option Nat} {Q : am_Q} {s0 : Int32} {c : Nat} (hc : c < 5) (h : (((M 24 c) < s0 → (((M 15 8) < s0 → (∃ K : Int32 → am_S → Prop, am_T X 3 0 [some (.int (((wi_m (wi_m M 28 c 0) 29 c 0) 29 c) * (M 27 c))), some (.int (M 15 8))] [] (jm_z (wi_m (wi_m M 28 c 0) 29 c 0) L G) (0, 0) (am_qi K) ∧ ∀ v σ', K v σ' → am_T X 6 142 [none, none, none, none, none, none] [(.int v), (.int (nI c)), (.ref 30)] σ' (0, 0) Q)) ∧ (¬ (M 15 8) < s0 → (((M 27 c) = 0 → (∃ K : Int32 → am_S → Prop, am_T X 3 0 [some (.int (((wi_m (wi_m M 28 c 0) 29 c 0) 29 c) * (M 27 c))), some (.int (M 15 8))] [] (jm_z (wi_m (wi_m M 28 c 0) 29 c 0) L G) (0, 0) (am_qi K) ∧ ∀ v σ', K v σ' → am_T X 6 142 [none, none, none, none, none, none] [(.int v), (.int (nI c)), (.ref 30)] σ' (0, 0) Q)) ∧ (¬ (M 27 c) = 0 → (∃ K : Int32 → am_S → Prop, am_T X 7 0 [some (.ref 5), some (.int (nI c)), some (.int (M 15 8)), some (.int (M 15 9)), none] [] (jm_z (wi_m M 28 c 0) L G) (0, 0) (am_qi K) ∧ ∀ v σ', K v σ' → am_T X 6 112 [some (.ref 15), none, some (.int (nI c)), none, none, none] [(.int v), (.int (nI c)), (.ref 29)] σ' (0, 0) Q)))))) ∧ (¬ (M 24 c) < s0 → (((M 24 c) ≤ 0 → (((M 15 8) < s0 → (∃ K : Int32 → am_S → Prop, am_T X 3 0 [some (.int (((wi_m (wi_m M 28 c 0) 29 c 0) 29 c) * (M 27 c))), some (.int (M 15 8))] [] (jm_z (wi_m (wi_m M 28 c 0) 29 c 0) L G) (0, 0) (am_qi K) ∧ ∀ v σ', K v σ' → am_T X 6 142 [none, none, none, none, none, none] [(.int v), (.int (nI c)), (.ref 30)] σ' (0, 0) Q)) ∧ (¬ (M 15 8) < s0 → (((M 27 c) = 0 → (∃ K : Int32 → am_S → Prop, am_T X 3 0 [some (.int (((wi_m (wi_m M 28 c 0) 29 c 0) 29 c) * (M 27 c))), some (.int (M 15 8))] [] (jm_z (wi_m (wi_m M 28 c 0) 29 c 0) L G) (0, 0) (am_qi K) ∧ ∀ v σ', K v σ' → am_T X 6 142 [none, none, none, none, none, none] [(.int v), (.int (nI c)), (.ref 30)] σ' (0, 0) Q)) ∧ (¬ (M 27 c) = 0 → (∃ K : Int32 → am_S → Prop, am_T X 7 0 [some (.ref 5), some (.int (nI c)), some (.int (M 15 8)), some (.int (M 15 9)), none] [] (jm_z (wi_m M 28 c 0) L G) (0, 0) (am_qi K) ∧ ∀ v σ', K v σ' → am_T X 6 112 [some (.ref 15), none, some (.int (nI c)), none, none, none] [(.int v), (.int (nI c)), (.ref 29)] σ' (0, 0) Q)))))) ∧ (¬ (M 24 c) ≤ 0 → (∃ K : Int32 → am_S → Prop, am_T X 7 0 [some (.ref 5), some (.int (nI c)), some (.int (M 24 c)), some (.int (M 26 c)), none] [] (jm_z M L G) (0, 0) (am_qi K) ∧ ∀ v σ', K v σ' → am_T X 6 60 [some (.ref 15), some (.ref 5), some (.int (nI c)), some (.int s0), none, none] [(.int v), (.int (nI c)), (.ref 28)] σ' (0, 0) Q)))))) : am_T X 6 6 [some (.ref 15), some (.ref 5), some (.int (nI c)), none, none, none] [(.int s0)] (jm_z M L G) (0, 0) Q := rz_X0_reckonCountry_15_5_6 (by
  rw [nI_clamp (show c < 2147483648 by omega)]
  exact ⟨(vp_in_nI hc (by decide)), ⟨fun e1 => ⟨fun _ => ⟨(vp_in_nI hc (by decide)), ⟨fun e2 => ⟨fun _ => ⟨(vp_in_nI hc (by decide)), ⟨(vp_in_nI hc (by decide)), ⟨(vp_in_nI hc (by decide)), ((h.1 e1).1 e2)⟩⟩⟩, fun e => absurd rfl e⟩, fun e2 => ⟨(vp_in_nI hc (by decide)), ⟨fun e3 => ⟨fun _ => ⟨(vp_in_nI hc (by decide)), ⟨(vp_in_nI hc (by decide)), ⟨(vp_in_nI hc (by decide)), (((h.1 e1).2 e2).1 e3)⟩⟩⟩, fun e => absurd rfl e⟩, fun e3 => ⟨fun e => absurd e (by decide), fun _ => (((h.1 e1).2 e2).2 e3)⟩⟩⟩⟩⟩, fun e => absurd rfl e⟩, fun e1 => ⟨(vp_in_nI hc (by decide)), ⟨fun e2 => ⟨fun _ => ⟨(vp_in_nI hc (by decide)), ⟨fun e3 => ⟨fun _ => ⟨(vp_in_nI hc (by decide)), ⟨(vp_in_nI hc (by decide)), ⟨(vp_in_nI hc (by decide)), (((h.2 e1).1 e2).1 e3)⟩⟩⟩, fun e => absurd rfl e⟩, fun e3 => ⟨(vp_in_nI hc (by decide)), ⟨fun e4 => ⟨fun _ => ⟨(vp_in_nI hc (by decide)), ⟨(vp_in_nI hc (by decide)), ⟨(vp_in_nI hc (by decide)), ((((h.2 e1).1 e2).2 e3).1 e4)⟩⟩⟩, fun e => absurd rfl e⟩, fun e4 => ⟨fun e => absurd e (by decide), fun _ => ((((h.2 e1).1 e2).2 e3).2 e4)⟩⟩⟩⟩⟩, fun e => absurd rfl e⟩, fun e2 => ⟨fun e => absurd e (by decide), fun _ => ⟨(vp_in_nI hc (by decide)), ⟨(vp_in_nI hc (by decide)), ((h.2 e1).2 e2)⟩⟩⟩⟩⟩⟩⟩)
theorem rq_X0_reckonCountry_15_5_60 {X : Nat × (Nat → Int32)} {M : Nat → Nat → Int32} {L : Nat → Nat → Int64} {G : Nat → Nat → Option Nat} {Q : am_Q} {x3 : Int32} {s2 : Int32} {c d : Nat} (hc : c < 5) (hd : d < 5) (h : (((M 15 8) < x3 → (∃ K : Int32 → am_S → Prop, am_T X 3 0 [some (.int (((wi_m (wi_m M 28 d s2) 29 c 0) 29 c) * (M 27 c))), some (.int (M 15 8))] [] (jm_z (wi_m (wi_m M 28 d s2) 29 c 0) L G) (0, 0) (am_qi K) ∧ ∀ v σ', K v σ' → am_T X 6 142 [none, none, none, none, none, none] [(.int v), (.int (nI c)), (.ref 30)] σ' (0, 0) Q)) ∧ (¬ (M 15 8) < x3 → (((M 27 c) = 0 → (∃ K : Int32 → am_S → Prop, am_T X 3 0 [some (.int (((wi_m (wi_m M 28 d s2) 29 c 0) 29 c) * (M 27 c))), some (.int (M 15 8))] [] (jm_z (wi_m (wi_m M 28 d s2) 29 c 0) L G) (0, 0) (am_qi K) ∧ ∀ v σ', K v σ' → am_T X 6 142 [none, none, none, none, none, none] [(.int v), (.int (nI c)), (.ref 30)] σ' (0, 0) Q)) ∧ (¬ (M 27 c) = 0 → (∃ K : Int32 → am_S → Prop, am_T X 7 0 [some (.ref 5), some (.int (nI c)), some (.int (M 15 8)), some (.int (M 15 9)), none] [] (jm_z (wi_m M 28 d s2) L G) (0, 0) (am_qi K) ∧ ∀ v σ', K v σ' → am_T X 6 112 [some (.ref 15), none, some (.int (nI c)), none, none, none] [(.int v), (.int (nI c)), (.ref 29)] σ' (0, 0) Q)))))) : am_T X 6 60 [some (.ref 15), some (.ref 5), some (.int (nI c)), some (.int x3), none, none] [(.int s2), (.int (nI d)), (.ref 28)] (jm_z M L G) (0, 0) Q := rz_X0_reckonCountry_15_5_60 (by
  rw [nI_clamp (show c < 2147483648 by omega), nI_clamp (show d < 2147483648 by omega)]
  exact ⟨(vp_in_nI hd (by decide)), ⟨fun e1 => ⟨fun _ => ⟨(vp_in_nI hc (by decide)), ⟨(vp_in_nI hc (by decide)), ⟨(vp_in_nI hc (by decide)), (h.1 e1)⟩⟩⟩, fun e => absurd rfl e⟩, fun e1 => ⟨(vp_in_nI hc (by decide)), ⟨fun e3 => ⟨fun _ => ⟨(vp_in_nI hc (by decide)), ⟨(vp_in_nI hc (by decide)), ⟨(vp_in_nI hc (by decide)), ((h.2 e1).1 e3)⟩⟩⟩, fun e => absurd rfl e⟩, fun e3 => ⟨fun e => absurd e (by decide), fun _ => ((h.2 e1).2 e3)⟩⟩⟩⟩⟩)
section Rz4
variable {X : Nat × (Nat → Int32)} {M : Nat → Nat → Int32} {L : Nat → Nat → Int64} {G : Nat → Nat → Option Nat} {Q : am_Q}
theorem cz_findBearer_15 {le : Int32} (hQ : Q (some none) (jm_z (wi_m M 15 10 (jm_br (M 24) le 5)) L G)) : am_T X 4 0 [some (.ref 15), some (.int le), none, none] [] (jm_z M L G) (0, 0) Q := by
  refine rz_X0_findBearer_15_0 ?_
  refine lp_dn (P := fun k => am_T X 4 7 [some (.ref 15), some (.int le), some (.int (nI k)), none] [] (jm_z (wi_m M 15 10 (jm_br (M 24) le k)) L G) (0, 0) Q) 5 ?_ ?_ 0 (by decide)
  · exact rq_X0_findBearer_15_7e hQ
  · intro k hk ih
    refine rq_X0_findBearer_15_7s hk ?_
    rw [wi_m_i, wi_m_p _ _ (show 24 ≠ 15 by decide), wi_m_2]
    unfold jm_br at ih
    refine ⟨fun h => ?_, fun h => ⟨fun h2 => ?_, fun h2 => ⟨?_, fun h3 => ?_, fun h3 => ?_⟩⟩⟩
    · rw [if_pos h] at ih
      exact ih
    · rw [if_neg h, if_pos h2] at ih
      exact ih
    · rcases jm_br_ok (M 24) le k with e | ⟨c, hc, e⟩
      · exact absurd e h2
      · rw [e]
        exact vp_in_nI (by omega) (by decide)
    · rw [if_neg h, if_neg h2, if_pos h3] at ih
      exact ih
    · rw [if_neg h, if_neg h2, if_neg h3] at ih
      exact ih
theorem cz_layBases_15 {le : Int32} (hb : M 15 10 = -1 ∨ ∃ c, c < 5 ∧ M 15 10 = nI c) (hQ : ∀ M', jm_Lb M 15 (M 24) le (M 15 10) M' → Q (some none) (jm_z M' L G)) : am_T X 5 0 [some (.ref 15), some (.int le), none, none] [] (jm_z M L G) (0, 0) Q := by
  refine rz_X0_layBases_15_0 ?_
  refine lp_dn (P := fun k => ∀ M1, jm_I9 M 15 (M 24) le (M 15 10) k M1 → am_T X 5 7 [some (.ref 15), some (.int le), some (.int (nI k)), none] [] (jm_z M1 L G) (0, 0) Q) 5 ?_ ?_ 0 (by decide) _ ⟨fun q h1 h2 => wi_m_p _ _ h1, fun i h => ?_, ?_, fun c hc => absurd hc (Nat.not_lt_zero c)⟩
  · intro M1 ⟨h1, h2, h3, h4⟩
    have e10 : M1 15 10 = M 15 10 := h2 10 (by decide)
    refine rq_X0_layBases_15_7e ?_
    rw [e10]
    refine ⟨fun h => hQ _ ⟨h1, h2, h3, fun c hc => ?_⟩, fun h => ?_⟩
    · rw [h4 c hc, h]
      unfold jm_ba
      have hn : ¬ ((-1 : Int32) = nI c) := fun e => jm_ne1 (by omega) e.symm
      rw [if_neg hn]
    · rcases hb with e | ⟨c, hc, e⟩
      · exact absurd e h
      rw [e, nI_clamp (by omega)]
      rw [e] at h3
      refine ⟨vp_in_nI hc (by decide), hQ _ ⟨?_, ?_, ?_, fun d hd => ?_⟩⟩
      · grind [wi_m_p]
      · simp only [wi_m_eq]
        grind
      · simp only [wi_m_eq]
        grind
      · have f1 := h4 c hc
        have f2 := h4 d hd
        simp only [wi_m_eq]
        unfold jm_ba
        rw [e]
        by_cases hcd : d = c
        · subst hcd
          grind
        · have hn : ¬ (nI c = nI d) := jm_ne (by omega) (by omega) (fun e => hcd e.symm)
          grind
  · intro k hk ih M1 ⟨h1, h2, h3, h4⟩
    have e10 : M1 15 10 = M 15 10 := h2 10 (by decide)
    have e24 : M1 24 = M 24 := h1 24 (by decide) (by decide)
    refine rq_X0_layBases_15_7s hk ?_
    rw [e10, e24, h3]
    refine ⟨fun h => ih _ ?_, fun h => ⟨fun h2 => ih _ ?_, fun h2 => ih _ ?_⟩⟩
    all_goals refine ⟨?_, ?_, ?_, ?_⟩
    all_goals try simp only [jm_le]
    all_goals grind [wi_m_p, wi_m_eq]
  · rw [wi_m_eq, if_pos rfl, if_neg h]
  · rw [wi_m_i]
    rfl
theorem cz_reckonCountry_15_5 {c : Nat} (hc : c < 5) (hQ : Q (some none) (jm_z (wi_m (wi_m (wi_m M 28 c (jm_na (M 6) c (M 24 c) (M 26 c))) 29 c (jm_th (M 6) c (M 15 8) (M 15 9) (M 27 c))) 30 c (jm_bm (jm_th (M 6) c (M 15 8) (M 15 9) (M 27 c) * M 27 c) (M 15 8))) L G)) : am_T X 6 0 [some (.ref 15), some (.ref 5), some (.int (nI c)), none, none, none] [] (jm_z M L G) (0, 0) Q := by
  have hv : vp_in (nI c) 5 := vp_in_nI hc (by decide)
  have hcl : (nI c).toNatClampNeg = c := nI_clamp (by omega)
  -- behind the nation
  have t142 : ∀ M1 v, Q (some none) (jm_z (wi_m M1 30 c v) L G) → am_T X 6 142 [none, none, none, none, none, none] [(.int v), (.int (nI c)), (.ref 30)] (jm_z M1 L G) (0, 0) Q := by
    intro M1 v h
    refine rz_X0_reckonCountry_15_5_142 ⟨hv, ?_⟩
    rw [hcl]
    exact h
  have t112 : ∀ M1 v, Q (some none) (jm_z (wi_m (wi_m M1 29 c v) 30 c (jm_bm (v * M1 27 c) (M1 15 8))) L G) → am_T X 6 112 [some (.ref 15), none, some (.int (nI c)), none, none, none] [(.int v), (.int (nI c)), (.ref 29)] (jm_z M1 L G) (0, 0) Q := by
    intro M1 v h
    refine rz_X0_reckonCountry_15_5_112 ⟨hv, hv, hv, ?_⟩
    rw [hcl, wi_m_i]
    exact cl_i (fun _ h => cz_byMonths h) (t142 _ _ h)
  have e28 : ∀ v, (wi_m M 28 c v) 15 = M 15 := fun v => wi_m_p _ _ (by decide)
  have e27 : ∀ v, (wi_m M 28 c v) 27 = M 27 := fun v => wi_m_p _ _ (by decide)
  have e06 : ∀ v, (wi_m M 28 c v) 6 = M 6 := fun v => wi_m_p _ _ (by decide)
  have zc : M 6 (4 * c + 0) = M 6 (4 * c) := rfl
  refine rz_X0_reckonCountry_15_5_0 (cl_i (fun _ h => cz_lawOf_5 (w := 0) (by omega) h) (rq_X0_reckonCountry_15_5_6 hc ?_))
  rw [zc]
  unfold jm_na jm_th at hQ
  simp only [wi_m_i]
  refine ⟨fun h => ?_, fun h => ⟨fun h2 => ?_, fun h2 => ?_⟩⟩
  · rw [if_pos h] at hQ
    refine ⟨fun h3 => ?_, fun h3 => ⟨fun h4 => ?_, fun h4 => ?_⟩⟩
    · rw [if_pos h3] at hQ
      exact cl_i (fun _ h => cz_byMonths h) (t142 _ _ hQ)
    · rw [if_neg h3, if_pos h4] at hQ
      exact cl_i (fun _ h => cz_byMonths h) (t142 _ _ hQ)
    · rw [if_neg h3, if_neg h4] at hQ
      refine cl_i (fun _ h => cz_sum_5 hc h) (t112 _ _ ?_)
      rw [e28, e27, e06]
      exact hQ
  · rw [if_neg h, if_pos h2] at hQ
    refine ⟨fun h3 => ?_, fun h3 => ⟨fun h4 => ?_, fun h4 => ?_⟩⟩
    · rw [if_pos h3] at hQ
      exact cl_i (fun _ h => cz_byMonths h) (t142 _ _ hQ)
    · rw [if_neg h3, if_pos h4] at hQ
      exact cl_i (fun _ h => cz_byMonths h) (t142 _ _ hQ)
    · rw [if_neg h3, if_neg h4] at hQ
      refine cl_i (fun _ h => cz_sum_5 hc h) (t112 _ _ ?_)
      rw [e28, e27, e06]
      exact hQ
  · rw [if_neg h, if_neg h2] at hQ
    refine cl_i (fun _ h => cz_sum_5 hc h) (rq_X0_reckonCountry_15_5_60 hc hc ?_)
    simp only [wi_m_i, e28, e27, e06]
    refine ⟨fun h3 => ?_, fun h3 => ⟨fun h4 => ?_, fun h4 => ?_⟩⟩
    · rw [if_pos h3] at hQ
      exact cl_i (fun _ h => cz_byMonths h) (t142 _ _ hQ)
    · rw [if_neg h3, if_pos h4] at hQ
      exact cl_i (fun _ h => cz_byMonths h) (t142 _ _ hQ)
    · rw [if_neg h3, if_neg h4] at hQ
      refine cl_i (fun _ h => cz_sum_5 hc h) (t112 _ _ ?_)
      rw [e28, e27, e06]
      exact hQ
theorem cz_reckon_15_5 {s : jS} (hS : jh M 5 s) (hw : jw s 20) (hQ : ∀ M', (∀ q, q < 15 ∨ 30 < q → M' q = M q) → jk M' 15 s → Q (some none) (jm_z M' L G)) : am_T X 1 0 [some (.ref 15), some (.ref 5), none] [] (jm_z M L G) (0, 0) Q := by
  obtain ⟨a1, a2, a3, a4, a5, a6, a7⟩ := hS
  have hok : jm_ok (M 9) (jn s) := jg_ok (fun i hi => (a2 i hi).symm) hw.2.1
  have hn := hw.1
  refine rz_X0_reckon_15_5_0 (cl_v (cz_monthsReckon_16_5 (n := jn s) a1 (by omega) hok (jm_gaps44 hok (by omega)) (fun M1 h1 => ⟨rfl, ?_⟩)))
  rw [a6] at h1
  have k1 : jkm M1 16 s := by
    have hLW := jg_LW (cr := jcr s) a2 a4 a5 hok (by omega)
    refine ⟨fun m hm => ?_, ?_, ?_⟩
    · obtain ⟨b1, b2, b3, b4⟩ := h1.2.1 m hm
      exact ⟨b1.trans (jg_cv a2 m (jn s) (Nat.le_refl _)), b2.trans (congrFun (jg_B a2 a4) m), b3.trans (hLW m hm).1, b4.trans (hLW m hm).2⟩
    · have := h1.2.2.1
      rw [jg_GP a2 a4] at this
      exact this
    · have := h1.2.2.2
      rw [jg_GP a2 a4] at this
      exact this
  have f1 := h1.1
  clear h1
  have cl : ∀ m, m < 360 → M1 20 m = jc_ld s m := fun m hm => (k1.1 m hm).2.2.1
  have cw : ∀ m, m < 360 → M1 21 m = jc_wg s m := fun m hm => (k1.1 m hm).2.2.2
  have cb : ∀ m, m < 360 → M1 19 m = jc_by s m := fun m hm => (k1.1 m hm).2.1
  have hla : jm_la (M1 20) := by
    intro m hm
    rw [cl m hm]
    exact jc_la hw (by decide) m hm
  refine rz_X0_reckon_15_5_8 (cl_v (cz_addMonths_15 hla (fun M2 h2 => ⟨rfl, ?_⟩)))
  have eow : ∀ c, jm_ow (M1 20) c 360 = jc_ow s c := fun c => jm_sm_cong (fun m hm => by rw [cl m hm])
  have ecn : ∀ c, jm_cn (M1 20) (M1 19) c 360 = jc_cn s c := fun c => jm_sm_cong (fun m hm => by rw [cl m hm, cb m hm])
  have eos : ∀ c, jm_os (M1 20) (M1 21) c 360 = jc_os s c := fun c => jm_sm_cong (fun m hm => by rw [cl m hm, cw m hm])
  obtain ⟨f2, g2, j2, w2, r2⟩ := h2
  simp only [eow, ecn, eos] at j2 w2 r2
  have s2 : M2 5 = M 5 := by rw [f2 5 (by decide) (by decide) (by decide) (by decide), f1 5 (by decide)]
  refine rz_X0_reckon_15_5_12 (cl_v (cz_findBearer_15 ⟨rfl, ?_⟩))
  have eb : jm_br (M2 24) (M2 5 6) 5 = jc_br s := by
    rw [s2, a7]
    exact jm_br_cong (fun c hc => (r2 c hc).1) (by decide)
  rw [eb]
  refine rz_X0_reckon_15_5_20 (cl_v (cz_layBases_15 ?_ (fun M3 h3 => ⟨rfl, ?_⟩)))
  · rw [wi_m_i]
    exact jm_br_ok _ _ _
  rw [wi_m_i, wi_m_p _ _ (show 24 ≠ 15 by decide), wi_m_p _ _ (show 5 ≠ 15 by decide), s2, a7] at h3
  obtain ⟨f3, g3, l3, r3⟩ := h3
  have el : jm_le (M2 24) (jle s) (jc_br s) 5 = jc_lt s := jm_le_cong (fun c hc => (r2 c hc).1)
  rw [el] at l3
  have eba : ∀ c, c < 5 → M3 27 c = jc_ba s c := by
    intro c hc
    rw [r3 c hc, el]
    unfold jc_ba jm_ba
    rw [(r2 c hc).1]
  have p3 : ∀ i, i ≠ 10 → i ≠ 11 → M3 15 i = M2 15 i := by
    intro i h1 h2
    rw [g3 i h2, wi_m_eq, if_pos rfl, if_neg h1]
  have b3 : M3 15 10 = jc_br s := by
    rw [g3 10 (by decide), wi_m_i]
  have q3 : ∀ q, q ≠ 15 → q ≠ 27 → M3 q = M2 q := by
    intro q h1 h2
    rw [f3 q h1 h2, wi_m_p _ _ h1]
  refine rz_X0_reckon_15_5_28 ?_
  -- over the COUNTRIES
  refine lp_dn (P := fun k => ∀ M4, (∀ q, q ≠ 15 → q ≠ 28 → q ≠ 29 → q ≠ 30 → M4 q = M3 q) → (∀ i, i ≠ 12 → M4 15 i = M3 15 i) → M4 15 12 = jm_sm (jc_py s) k → (∀ c, c < k → M4 28 c = jc_na s c ∧ M4 29 c = jc_th s c ∧ M4 30 c = jc_sh s c) → am_T X 1 35 [some (.ref 15), some (.ref 5), some (.int (nI k))] [] (jm_z M4 L G) (0, 0) Q) 5 ?_ ?_ 0 (by decide) _ ?_ ?_ ?_ ?_
  · intro M4 f4 g4 l4 r4
    refine rz_X0_reckon_15_5_35 ⟨fun _ => hQ M4 ?_ ?_, fun h => absurd (nI_le (Nat.le_refl 5) (by decide)) h⟩
    · intro q hq
      rw [f4 q (by omega) (by omega) (by omega) (by omega), q3 q (by omega) (by omega), f2 q (by omega) (by omega) (by omega) (by omega), f1 q (by omega)]
    · have E : ∀ q, q ≠ 15 → q ≠ 28 → q ≠ 29 → q ≠ 30 → q ≠ 27 → M4 q = M2 q := by
        intro q h1 h2 h3 h4 h5
        rw [f4 q h1 h2 h3 h4, q3 q h1 h5]
      have E1 : ∀ q, q ≠ 15 → q ≠ 24 → q ≠ 25 → q ≠ 26 → q ≠ 28 → q ≠ 29 → q ≠ 30 → q ≠ 27 → M4 q = M1 q := by
        intro q h1 h2 h3 h4 h5 h6 h7 h8
        rw [E q h1 h5 h6 h7 h8, f2 q h1 h2 h3 h4]
      refine ⟨⟨fun m hm => ?_, ?_, fun g hg => ?_⟩, ⟨?_, ?_, ?_, ?_, ?_⟩, fun c hc => ?_⟩
      · rw [E1 (16 + 2) (by decide) (by decide) (by decide) (by decide) (by decide) (by decide) (by decide) (by decide), E1 (16 + 3) (by decide) (by decide) (by decide) (by decide) (by decide) (by decide) (by decide) (by decide), E1 (16 + 4) (by decide) (by decide) (by decide) (by decide) (by decide) (by decide) (by decide) (by decide), E1 (16 + 5) (by decide) (by decide) (by decide) (by decide) (by decide) (by decide) (by decide) (by decide)]
        exact k1.1 m hm
      · rw [E1 16 (by decide) (by decide) (by decide) (by decide) (by decide) (by decide) (by decide) (by decide)]
        exact k1.2.1
      · rw [E1 (16 + 6) (by decide) (by decide) (by decide) (by decide) (by decide) (by decide) (by decide) (by decide), E1 (16 + 7) (by decide) (by decide) (by decide) (by decide) (by decide) (by decide) (by decide) (by decide)]
        exact k1.2.2 g hg
      · rw [g4 8 (by decide), p3 8 (by decide) (by decide), j2]
        rfl
      · rw [g4 9 (by decide), p3 9 (by decide) (by decide), w2]
        rfl
      · rw [g4 10 (by decide), b3]
      · rw [g4 11 (by decide), l3]
      · rw [l4]
        rfl
      · obtain ⟨u1, u2, u3⟩ := r2 c hc
        obtain ⟨v1, v2, v3⟩ := r4 c hc
        have e1 : M4 24 = M2 24 := E 24 (by decide) (by decide) (by decide) (by decide) (by decide)
        have e2 : M4 25 = M2 25 := E 25 (by decide) (by decide) (by decide) (by decide) (by decide)
        have e3 : M4 26 = M2 26 := E 26 (by decide) (by decide) (by decide) (by decide) (by decide)
        have e4 : M4 27 = M3 27 := f4 27 (by decide) (by decide) (by decide) (by decide)
        refine ⟨?_, ?_, ?_, ?_, v1, v2, v3⟩
        · exact (congrFun e1 c).trans u1
        · exact (congrFun e2 c).trans u2
        · exact (congrFun e3 c).trans u3
        · exact (congrFun e4 c).trans (eba c hc)
  · intro k hk ih M4 f4 g4 l4 r4
    refine rz_X0_reckon_15_5_35 ⟨fun h => absurd h (nI_ge hk (by decide)), fun _ => cl_v (cz_reckonCountry_15_5 hk ⟨rfl, ?_⟩)⟩
    obtain ⟨u1, u2, u3⟩ := r2 k hk
    have e1 : M4 24 k = jc_ow s k := by rw [f4 24 (by decide) (by decide) (by decide) (by decide), q3 24 (by decide) (by decide), u1]
    have e3 : M4 26 k = jc_ww s k := by rw [f4 26 (by decide) (by decide) (by decide) (by decide), q3 26 (by decide) (by decide), u3]; rfl
    have e4 : M4 27 k = jc_ba s k := by rw [f4 27 (by decide) (by decide) (by decide) (by decide), eba k hk]
    have e8 : M4 15 8 = jc_J s := by rw [g4 8 (by decide), p3 8 (by decide) (by decide), j2]; rfl
    have e9 : M4 15 9 = jc_W s := by rw [g4 9 (by decide), p3 9 (by decide) (by decide), w2]; rfl
    have elw : M4 6 = M 6 := by rw [f4 6 (by decide) (by decide) (by decide) (by decide), q3 6 (by decide) (by decide), f2 6 (by decide) (by decide) (by decide) (by decide), f1 6 (by decide)]
    have ena : jm_na (M4 6) k (M4 24 k) (M4 26 k) = jc_na s k := by
      rw [e1, e3, elw]
      unfold jc_na jm_na jm_su
      rw [a3 (4 * k) (by omega), a3 (4 * k + 1) (by omega), a3 (4 * k + 2) (by omega)]
    have eth : jm_th (M4 6) k (M4 15 8) (M4 15 9) (M4 27 k) = jc_th s k := by
      rw [e8, e9, e4, elw]
      unfold jc_th jm_th jm_su
      rw [a3 (4 * k) (by omega), a3 (4 * k + 1) (by omega), a3 (4 * k + 2) (by omega)]
    have esh : jm_bm (jc_th s k * M4 27 k) (M4 15 8) = jc_sh s k := by
      rw [e8, e4]
      rfl
    rw [ena, eth, esh]
    refine rz_X0_reckon_15_5_46 (cl_i (fun _ h => cz_paysOf_15 hk h) ?_)
    rw [wi_m_p _ _ (show 15 ≠ 30 by decide), wi_m_p _ _ (show 15 ≠ 29 by decide), wi_m_p _ _ (show 15 ≠ 28 by decide), wi_m_i, wi_m_p _ _ (show 28 ≠ 30 by decide), wi_m_p _ _ (show 28 ≠ 29 by decide), wi_m_i, l4]
    refine rz_X0_reckon_15_5_56 ?_
    rw [nI_1]
    refine ih _ ?_ ?_ ?_ ?_
    · intro q h1 h2 h3 h4
      rw [wi_m_p _ _ h1, wi_m_p _ _ h4, wi_m_p _ _ h3, wi_m_p _ _ h2, f4 q h1 h2 h3 h4]
    · intro i hi
      rw [wi_m_eq, if_pos rfl, if_neg hi, wi_m_p _ _ (show 15 ≠ 30 by decide), wi_m_p _ _ (show 15 ≠ 29 by decide), wi_m_p _ _ (show 15 ≠ 28 by decide), g4 i hi]
    · rw [wi_m_i]
      rfl
    · intro c hc
      have h := r4 c
      simp only [wi_m_eq]
      grind
  · intro q h1 h2 h3 h4
    exact wi_m_p _ _ h1
  · intro i hi
    rw [wi_m_eq, if_pos rfl, if_neg hi]
  · exact wi_m_i _ _ _ _
  · intro c hc
    exact absurd hc (Nat.not_lt_zero c)
end Rz4
